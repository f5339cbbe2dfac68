import java.io.IOException;
import java.nio.file.Files;
import java.nio.file.Path;
import java.util.Map;
import java.util.TreeMap;
import java.util.regex.Matcher;
import java.util.regex.Pattern;
import java.util.stream.Stream;

/**
 * Each sentence of "Terms" and of the promises is told by a test, in the document's own words: what
 * the tests name by terms(..) and promise(..) stands in ../shared/DOC.md, and no word there is left.
 */
public final class DocumentTests {
    private static final Path DOCUMENT = Path.of("../shared/DOC.md");
    private static final Path TESTS = Path.of("src/test/java");
    private static final int PARTS = 5, PROMISES = 34;
    private static final Pattern NAMED =
        Pattern.compile("check\\.(terms|promise)\\((\\d+),\\s*(\"[^\"]*\"(?:\\s*\\+\\s*\"[^\"]*\")*)\\)");

    private static final Check check = new Check("DocumentTests");

    /** By "terms 0" or "promise 1" what the document says there, and the same with what is told yet blanked out. */
    private static final Map<String, String> said = new TreeMap<>();
    private static final Map<String, StringBuilder> left = new TreeMap<>();

    public static void main(String[] args) throws IOException {
        if (!Files.exists(DOCUMENT)) {
            System.out.println("DocumentTests: " + DOCUMENT + " is not there to be looked up");
            return;
        }
        String document = Files.readString(DOCUMENT);
        terms(document);
        promises(document);
        check.due("parts and promises", said.size(), PARTS + PROMISES);
        for (Map.Entry<String, String> part : said.entrySet()) {
            left.put(part.getKey(), new StringBuilder(part.getValue()));
        }
        try (Stream<Path> tests = Files.list(TESTS)) {
            for (Path test : tests.sorted().toList()) {
                named(test.getFileName().toString(), Files.readString(test));
            }
        }
        for (Map.Entry<String, StringBuilder> part : left.entrySet()) {
            String words = plain(part.getValue().toString().replaceAll("\\W+", " "));
            check.holds(part.getKey() + " is told by tests, but for: " + words, words.isEmpty());
        }
        check.end();
    }

    private static String plain(String text) {
        return text.replaceAll("\\s+", " ").trim();
    }

    private static void terms(String document) {
        String all = document.substring(document.indexOf("\n## Terms\n") + 10, document.indexOf("\nAhead of the calls"));
        String[] parts = all.replaceAll("```(text)?", "").split("======== \\d ");
        for (int part = 0; part < parts.length; part++) {
            said.put("terms " + part, plain(parts[part]));
        }
    }

    private static void promises(String document) {
        Matcher each = Pattern.compile("\n## Promise (\\d+): [^\n]+\n\n`[^`]*`: ([^\n]*)\n").matcher(document);
        while (each.find()) {
            said.put("promise " + each.group(1), plain(each.group(2)));
        }
    }

    /** Blanks out what a test names; it must stand in its part of the document. */
    private static void named(String test, String source) {
        Matcher each = NAMED.matcher(source);
        while (each.find()) {
            String part = each.group(1) + " " + each.group(2);
            String words = each.group(3).replaceAll("\"\\s*\\+\\s*\"", "").replace("\"", "");
            int at = said.getOrDefault(part, "").indexOf(words);
            check.holds(test + ": " + part + " says \"" + words + "\"", at >= 0);
            for (int i = at; at >= 0 && i < at + words.length(); i++) {
                left.get(part).setCharAt(i, ' ');
            }
        }
    }
}
