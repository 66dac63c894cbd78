import java.io.IOException;
import java.lang.reflect.Field;
import java.lang.reflect.Modifier;
import java.nio.file.Files;
import java.nio.file.Path;
import java.util.ArrayList;
import java.util.Arrays;
import java.util.List;
import java.util.Set;
import java.util.regex.Matcher;
import java.util.regex.Pattern;

/**
 * What can be looked up of ../shared/LANGUAGE.md in the class's own text: signs and names that it rules out,
 * lengths and counts. Runs where the project's folder is the working one.
 */
public final class LanguageTest {
    private static final Path SOURCE = Path.of("src/main/java/GrainShift.java");
    private static final Checks c = new Checks();

    public static void main(String[] args) throws IOException {
        String code = bare(Files.readString(SOURCE));
        namesOutside(code);
        libraryAlone(code);
        nothingIsCaught(code);
        methodsAreShort(code);
        fieldsAreFew();
        c.finish();
    }

    /** Without comments, and without what stands within texts and signs. */
    private static String bare(String source) {
        String out = source.replaceAll("(?s)/\\*.*?\\*/", "").replaceAll("//[^\n]*", "");
        return out.replaceAll("\"(?:[^\"\\\\]|\\\\.)*\"", "\"\"").replaceAll("'(?:[^'\\\\]|\\\\.)'", "' '");
    }

    private static void namesOutside(String code) {
        for (String word : List.of("package", "synchronized", "assert", "finally", "strictfp", "native", "transient",
                "volatile", "equals", "hashCode", "toString", "System", "Thread", "Random", "protected", "var")) {
            c.no("rule 1, 6 or 13: '" + word + "' stands there", Pattern.compile("\\b" + word + "\\b").matcher(code).find());
        }
        for (String sign : List.of("->", "::", "@")) {
            c.no("rule 2: '" + sign + "' stands there", code.contains(sign));
        }
        c.no("rule 5: a static block", Pattern.compile("\\bstatic\\s*\\{").matcher(code).find());
        c.no("a loop without a bound", Pattern.compile("while\\s*\\(true\\)|for\\s*\\(;;\\)").matcher(code).find());
    }

    private static void libraryAlone(String code) {
        Matcher imports = Pattern.compile("\\bimport ([\\w.*]+);").matcher(code);
        while (imports.find()) {
            c.yes("rule 4: import of " + imports.group(1), imports.group(1).equals("java.util.NoSuchElementException"));
        }
        Set<String> known = Set.of("abs", "max", "min");
        Matcher used = Pattern.compile("\\b(Math|Integer|Long|Arrays)\\.(\\w+)").matcher(code);
        while (used.find()) {
            c.yes("rule 4: " + used.group(), used.group(1).equals("Math") && known.contains(used.group(2)));
        }
    }

    /** The document has one exception, and nothing in the class needs a catch. */
    private static void nothingIsCaught(String code) {
        c.no("a try", Pattern.compile("\\btry\\b").matcher(code).find());
        c.no("a catch", Pattern.compile("\\bcatch\\b").matcher(code).find());
        Matcher thrown = Pattern.compile("\\bthrow\\b[^;]*;").matcher(code);
        int n = 0;
        while (thrown.find()) {
            n++;
            c.yes("rule 6: " + thrown.group(), thrown.group().equals("throw new NoSuchElementException();"));
        }
        c.same("throws in the class", n, 1);
    }

    private static void methodsAreShort(String code) {
        String[] lines = code.split("\n");
        Pattern head = Pattern.compile("^( {4}| {8})(?!private static final class|private abstract)\\S.*\\) (throws \\w+ )?\\{$");
        int methods = 0;
        for (int k = 0; k < lines.length; k++) {
            Matcher m = head.matcher(lines[k]);
            if (m.find() && !lines[k].matches("\\s*(if|for|while|switch|\\}).*")) {
                methods++;
                int end = k + 1;
                while (end < lines.length && !lines[end].equals(m.group(1) + "}")) {
                    end++;
                }
                c.yes("rule 11: lines of " + lines[k].trim(), end < lines.length && end - k < 60);
            }
        }
        c.yes("methods were found: " + methods, methods > 100);
    }

    private static void fieldsAreFew() {
        List<Class<?>> all = new ArrayList<>(Arrays.asList(GrainShift.class.getDeclaredClasses()));
        all.add(GrainShift.class);
        for (Class<?> k : all) {
            int fields = 0;
            for (Field f : k.getDeclaredFields()) {
                fields += Modifier.isStatic(f.getModifiers()) ? 0 : 1;
            }
            c.yes("rule 11: " + k.getSimpleName() + " has " + fields + " fields", fields <= 20);
            c.yes("rule 1: " + k.getSimpleName() + " is static", k == GrainShift.class || Modifier.isStatic(k.getModifiers()));
        }
    }
}
