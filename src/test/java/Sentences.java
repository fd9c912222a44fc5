import java.io.IOException;
import java.nio.file.Files;
import java.nio.file.Path;
import java.util.LinkedHashMap;
import java.util.Map;
import java.util.regex.Matcher;
import java.util.regex.Pattern;

/** Tests that each belong to a sentence of the document: the words are looked up there, and none may be left out. */
final class Sentences {
    private static final Path DOC = Path.of("../shared/DOC.md");
    // A single dot ends a sentence; two of them stand between the ends of a range.
    private static final Pattern SENTENCE = Pattern.compile("(?:\\.\\.|\\.(?=\\S)|[^.])+(?:\\.(?!\\S)|$)");

    private final Checks checks = new Checks();
    private final Map<String, String> parts = new LinkedHashMap<>();
    private final Map<String, boolean[]> quoted = new LinkedHashMap<>();
    private String words = "";
    private int tests = 0;

    Sentences() throws IOException {
        String part = null;
        for (String line : Files.readAllLines(DOC)) {
            Matcher term = Pattern.compile("(\\d)\\. .*").matcher(line);
            if (line.startsWith("## ")) {
                part = line.substring(3).replaceAll(":.*", "");
            } else if (part != null && part.startsWith("Terms") && term.matches()) {
                part = "Terms " + term.group(1);
                line = line.substring(3);
            }
            if (part != null && !line.startsWith("#") && !line.startsWith("```")) {
                parts.merge(part, line.trim(), (a, b) -> (a + " " + b).trim());
            }
        }
        parts.keySet().removeIf(p -> !p.matches("What it is|Terms \\d|Promise \\d+"));
        for (Map.Entry<String, String> e : parts.entrySet()) {
            quoted.put(e.getKey(), new boolean[e.getValue().length()]);
        }
    }

    /** A test of a sentence, or of a part of one, of a part of the document. */
    void of(String part, String quote, Runnable test) {
        words = part + ", '" + quote + "': ";
        tests++;
        String text = parts.getOrDefault(part, "");
        int at = text.indexOf(quote);
        checks.due(words + "stands in the document", at >= 0, true);
        for (int i = Math.max(at, 0); i < at + quote.length() && at >= 0; i++) {
            quoted.get(part)[i] = true;
        }
        int before = checks.made();
        test.run();
        checks.due(words + "has answers to look at", checks.made() > before, true);
    }

    void due(String call, long got, long want) {
        checks.due(words + call, got, want);
    }

    void due(String call, boolean got, boolean want) {
        checks.due(words + call, got, want);
    }

    /** Every sentence of the terms and promises must have been quoted by a test, at least in part. */
    void finish() {
        checks.due("parts of the document", parts.size(), 45);
        for (Map.Entry<String, String> e : parts.entrySet()) {
            Matcher m = SENTENCE.matcher(e.getValue());
            while (m.find()) {
                boolean some = m.group().isBlank();
                for (int i = m.start(); i < m.end(); i++) {
                    some |= quoted.get(e.getKey())[i];
                }
                checks.due(e.getKey() + " has a sentence without a test: " + m.group().trim(), some, true);
            }
        }
        System.out.println(tests + " tests of sentences");
        checks.finish();
    }
}
