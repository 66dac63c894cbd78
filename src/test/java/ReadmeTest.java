import java.io.IOException;
import java.lang.reflect.Method;
import java.lang.reflect.Modifier;
import java.nio.file.DirectoryStream;
import java.nio.file.Files;
import java.nio.file.Path;
import java.util.regex.Matcher;
import java.util.regex.Pattern;

/**
 * That README.md is true: its example answers as it says, it names every call of the face, and its table has
 * every test and no other. Runs where the project's folder is the working one.
 */
public final class ReadmeTest {
    private static final Path README = Path.of("README.md");
    private static final Path TESTS = Path.of("src/test/java");
    private static final Checks c = new Checks();

    public static void main(String[] args) throws IOException, ReflectiveOperationException {
        String readme = Files.readString(README);
        exampleAnswersSo(readme);
        everyCallIsNamed(readme);
        everyTestIsListed(readme);
        c.finish();
    }

    /** A line of the example: x.call(numbers);  // answer: what it is. */
    private static void exampleAnswersSo(String readme) throws ReflectiveOperationException {
        Matcher block = Pattern.compile("(?s)```java\n(.*?)```").matcher(readme);
        c.yes("there is an example", block.find());
        GrainShift x = new GrainShift();
        int calls = 0;
        for (String line : block.group(1).split("\n")) {
            Matcher m = Pattern.compile("^x\\.(\\w+)\\((.*?)\\);\\s+// (-?\\w+): .*$").matcher(line);
            if (m.matches()) {
                calls++;
                c.yes(line, answer(x, m.group(1), m.group(2)).equals(m.group(3)));
            } else {
                c.yes("a line that can be followed: " + line, line.equals("GrainShift x = new GrainShift();"));
            }
        }
        c.yes("the example has calls", calls > 9);
    }

    private static String answer(GrainShift x, String name, String numbers) throws ReflectiveOperationException {
        String[] told = numbers.isEmpty() ? new String[0] : numbers.split(", ");
        for (Method m : GrainShift.class.getDeclaredMethods()) {
            if (Modifier.isPublic(m.getModifiers()) && m.getName().equals(name) && m.getParameterCount() == told.length) {
                Object[] with = new Object[told.length];
                for (int k = 0; k < told.length; k++) {
                    boolean wide = m.getParameterTypes()[k] == long.class;
                    with[k] = wide ? (Object) Long.decode(told[k].replace("L", "")) : (Object) Integer.decode(told[k]);
                }
                return String.valueOf(m.invoke(x, with));
            }
        }
        return "no such call";
    }

    private static void everyCallIsNamed(String readme) {
        for (Method m : GrainShift.class.getDeclaredMethods()) {
            if (Modifier.isPublic(m.getModifiers())) {
                c.yes("README.md names " + m.getName(), readme.contains("`" + m.getName() + "`"));
            }
        }
    }

    private static void everyTestIsListed(String readme) throws IOException {
        int tests = 0;
        try (DirectoryStream<Path> files = Files.newDirectoryStream(TESTS, "*Test.java")) {
            for (Path file : files) {
                tests++;
                String name = file.getFileName().toString().replace(".java", "");
                c.yes("README.md lists " + name, readme.contains("| `" + name + "` |"));
            }
        }
        int rows = 0;
        Matcher row = Pattern.compile("(?m)^\\| `\\w+Test` \\|").matcher(readme);
        while (row.find()) {
            rows++;
        }
        c.same("tests that README.md lists", rows, tests);
    }
}
