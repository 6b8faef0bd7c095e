import java.nio.file.Files;
import java.nio.file.Path;
import java.util.ArrayList;
import java.util.LinkedHashMap;
import java.util.List;
import java.util.Map;

/**
 * Ties the tests of edges to the document: each says which of its words it is about, and at the end every word that
 * a promise rests on must have had a test.
 */
final class Document {
    static final String WHAT_IT_IS = "What it is", TERMS = "Terms";
    private static final Map<String, List<String>> QUOTED = new LinkedHashMap<>();

    private Document() {
    }

    static void promise(int number, String words) {
        heading("Promise " + number, words);
    }

    static void heading(String heading, String words) {
        Check.about(heading, words);
        QUOTED.computeIfAbsent(heading, key -> new ArrayList<>()).add(words);
    }

    /** Whether the words that were quoted stand in the document, and whether they are all that there is. */
    static void checkQuotes(Path file) throws Exception {
        if (!Files.isReadable(file)) {
            System.out.println("the document is not there: its words are not compared");
            return;
        }
        Map<String, String> sections = sections(Files.readString(file));
        for (int number = 1; number <= 28; number++) {
            checkSection("Promise " + number, sections.getOrDefault("Promise " + number, ""), true);
        }
        checkSection(TERMS, sections.getOrDefault(TERMS, ""), true);
        checkSection(WHAT_IT_IS, sections.getOrDefault(WHAT_IT_IS, ""), false);
    }

    private static Map<String, String> sections(String document) {
        Map<String, String> sections = new LinkedHashMap<>();
        for (String section : document.split("(?m)^## ")) {
            int end = section.indexOf('\n');
            String title = section.substring(0, Math.max(end, 0)).replaceAll(":.*", "").trim();
            String text = section.substring(Math.max(end, 0))
                .replaceAll("(?m)^Ahead of the calls .*$", "")
                .replaceAll("(?m)^```.*$", "")
                .replaceAll("(?m)^`[^`]*`:", "")
                .replaceAll("======== \\d+", "");
            sections.put(title, text.replaceAll("\\s+", " ").trim());
        }
        return sections;
    }

    private static void checkSection(String heading, String text, boolean whole) {
        Check.about(heading, "the document's own text");
        boolean[] covered = new boolean[text.length()];
        for (String words : QUOTED.getOrDefault(heading, List.of())) {
            int at = text.indexOf(words);
            Check.due("has the words \"" + words + "\"", at >= 0 ? 1 : 0, 1);
            for (; at >= 0; at = text.indexOf(words, at + 1)) {
                java.util.Arrays.fill(covered, at, at + words.length(), true);
            }
        }
        StringBuilder left = new StringBuilder();
        for (int i = 0; i < text.length(); i++) {
            left.append(covered[i] ? ' ' : text.charAt(i));
        }
        String untested = left.toString().replaceAll("[^A-Za-z0-9]+", " ").trim();
        Check.due("words without a test", whole ? untested : "", "");
        Check.due("is there", text.isEmpty() ? 0 : 1, 1);
    }
}
