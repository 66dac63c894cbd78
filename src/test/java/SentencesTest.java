import java.io.IOException;
import java.nio.file.DirectoryStream;
import java.nio.file.Files;
import java.nio.file.Path;
import java.util.Map;
import java.util.TreeMap;
import java.util.regex.Matcher;
import java.util.regex.Pattern;

/**
 * That no sentence of the document is without a test: the tests quote, by Checks.part and Checks.promise, the
 * words they hold the class to. Every quote stands in the document, and every word of "Terms" and of the promises
 * stands in a quote. Runs where the project's folder is the working one.
 */
public final class SentencesTest {
    private static final Path DOC = Path.of("../shared/DOC.md");
    private static final Path TESTS = Path.of("src/test/java");
    private static final Pattern QUOTE = Pattern.compile("\\b(part|promise)\\((\\d+), \"((?:[^\"\\\\]|\\\\.)*)\"\\)");

    private final Map<String, String> sections = new TreeMap<>();
    private final Map<String, boolean[]> quoted = new TreeMap<>();
    private int wrong = 0;
    private int quotes = 0;

    public static void main(String[] args) throws IOException {
        if (!Files.exists(DOC)) {
            System.out.println("there is no " + DOC + " to hold the quotes against");
            return;
        }
        SentencesTest t = new SentencesTest();
        t.readDocument();
        try (DirectoryStream<Path> files = Files.newDirectoryStream(TESTS, "*.java")) {
            for (Path file : files) {
                t.readQuotes(file);
            }
        }
        t.tellWhatIsNotQuoted();
        System.out.println(t.wrong == 0 ? t.quotes + " quotes cover the document" : t.wrong + " faults");
        if (t.wrong != 0) {
            System.exit(1);
        }
    }

    private void readDocument() throws IOException {
        String doc = Files.readString(DOC).replaceAll("```(text)?", " ").replaceAll("\\s+", " ");
        int terms = doc.indexOf("## Terms");
        int promises = doc.indexOf("## Promise 1:");
        int end = doc.indexOf("## Not promised");
        if (terms < 0 || promises < terms || end < promises) {
            fault("the document has no Terms, no promises or no end");
            return;
        }
        put("part 0", doc.substring(0, terms));
        String[] parts = doc.substring(terms + "## Terms".length(), promises).split("==== \\d\\.");
        for (int k = 0; k < parts.length; k++) {
            put("part " + (k + 1), parts[k]);
        }
        // Behind each heading stands the call, between ` and `, and what it does.
        Matcher m = Pattern.compile("## Promise (\\d+): \\w.*?`[^`]*`: (.*?)(?=## |$)").matcher(doc.substring(promises, end));
        while (m.find()) {
            put("promise " + m.group(1), m.group(2));
        }
        if (parts.length != 7 || !sections.containsKey("promise 49")) {
            fault("the document has " + parts.length + " parts, and " + sections.size() + " sections in all");
        }
    }

    private void put(String name, String text) {
        sections.put(name, text);
        quoted.put(name, new boolean[text.length()]);
    }

    private void fault(String what) {
        wrong++;
        System.out.println(what);
    }

    private void readQuotes(Path file) throws IOException {
        Matcher m = QUOTE.matcher(Files.readString(file));
        while (m.find()) {
            quotes++;
            String section = m.group(1) + " " + m.group(2);
            mark(file + ": " + section, section, m.group(3));
        }
    }

    private void mark(String where, String section, String words) {
        String text = sections.getOrDefault(section, "");
        int at = text.indexOf(words);
        if (at < 0) {
            fault(where + " does not say '" + words + "'");
        }
        while (at >= 0) {
            for (int k = at; k < at + words.length(); k++) {
                quoted.get(section)[k] = true;
            }
            at = text.indexOf(words, at + 1);
        }
    }

    private void tellWhatIsNotQuoted() {
        for (Map.Entry<String, String> section : sections.entrySet()) {
            if (section.getKey().equals("part 0")) {
                continue;
            }
            StringBuilder open = new StringBuilder();
            for (int k = 0; k < section.getValue().length(); k++) {
                open.append(quoted.get(section.getKey())[k] ? '~' : section.getValue().charAt(k));
            }
            for (String words : open.toString().split("~+")) {
                if (words.matches(".*[A-Za-z0-9].*")) {
                    fault(section.getKey() + ": no test quotes '" + words.trim() + "'");
                }
            }
        }
    }
}
