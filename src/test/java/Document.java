import java.nio.file.Files;
import java.nio.file.Path;
import java.util.ArrayList;
import java.util.LinkedHashMap;
import java.util.List;
import java.util.Map;
import java.util.regex.Matcher;
import java.util.regex.Pattern;

/**
 * Ties the tests of edges to the document: each says which of its words it is about, and at the end every word that
 * a promise rests on must have had a test.
 */
final class Document {
    static final String WHAT_IT_IS = "What it is", TERMS = "Terms";
    private static final Map<String, List<String>> QUOTED = new LinkedHashMap<>();

    private Document() {
    }

    static void promise(int number, String words) {
        heading("Promise " + number, words);
    }

    static void heading(String heading, String words) {
        Check.about(heading, words);
        QUOTED.computeIfAbsent(heading, key -> new ArrayList<>()).add(words);
    }

    /** Whether the words that were quoted stand in the document, and whether they are all that there is. */
    static void checkQuotes(Path file) throws Exception {
        if (!Files.isReadable(file)) {
            System.out.println("the document is not there: its words are not compared");
            return;
        }
        Map<String, String> sections = sections(Files.readString(file));
        for (int number = 1; number <= 28; number++) {
            checkSection("Promise " + number, sections.getOrDefault("Promise " + number, ""));
        }
        checkSection(TERMS, sections.getOrDefault(TERMS, ""));
        checkSection(WHAT_IT_IS, sections.getOrDefault(WHAT_IT_IS, ""));
    }

    /** The groups of calls, as the document tells them: what the interface says ahead of each, and its calls. */
    static Map<String, List<String>> groups(Path file) throws Exception {
        Map<String, List<String>> groups = new LinkedHashMap<>();
        if (!Files.isReadable(file)) {
            System.out.println("the document is not there: its groups are not compared");
            return groups;
        }
        Matcher told = Pattern.compile("(?m)^Ahead of the calls? (.*) the interface says: ---- (.*)\\.$").matcher(Files.readString(file));
        while (told.find()) {
            groups.put(told.group(2), List.of(told.group(1).replaceAll("[`,]", "").split(" ")));
        }
        Check.due("groups of calls in the document", groups.size(), 5);
        return groups;
    }

    /** The lines of the public face, each without its semicolon and without what is not the caller's: parameters' names. */
    static List<String> face(Path file) throws Exception {
        List<String> face = new ArrayList<>();
        if (!Files.isReadable(file)) {
            System.out.println("the document is not there: its face is not compared");
            return face;
        }
        Matcher line = Pattern.compile("(?m)^    public (\\w+ )?(\\w+)\\((.*)\\);$").matcher(Files.readString(file));
        while (line.find()) {
            String types = line.group(3).replaceAll("(\\w+) \\w+", "$1").replace(" ", "");
            face.add((line.group(1) == null ? "" : line.group(1)) + line.group(2) + "(" + types + ")");
        }
        return face;
    }

    private static Map<String, String> sections(String document) {
        Map<String, String> sections = new LinkedHashMap<>();
        for (String section : document.split("(?m)^## ")) {
            int end = section.indexOf('\n');
            String title = section.substring(0, Math.max(end, 0)).replaceAll(":.*", "").trim();
            String text = section.substring(Math.max(end, 0))
                .replaceAll("(?m)^Ahead of the calls .*$", "")
                .replaceAll("(?m)^```.*$", "")
                .replaceAll("(?m)^`[^`]*`:", "")
                .replaceAll("======== \\d+", "");
            sections.put(title, text.replaceAll("\\s+", " ").trim());
        }
        return sections;
    }

    private static void checkSection(String heading, String text) {
        Check.about(heading, "the document's own text");
        boolean[] covered = new boolean[text.length()];
        for (String words : QUOTED.getOrDefault(heading, List.of())) {
            int at = text.indexOf(words);
            Check.due("has the words \"" + words + "\"", at >= 0 ? 1 : 0, 1);
            for (; at >= 0; at = text.indexOf(words, at + 1)) {
                java.util.Arrays.fill(covered, at, at + words.length(), true);
            }
        }
        StringBuilder left = new StringBuilder();
        for (int i = 0; i < text.length(); i++) {
            left.append(covered[i] ? ' ' : text.charAt(i));
        }
        String untested = left.toString().replaceAll("[^A-Za-z0-9]+", " ").trim();
        Check.due("words without a test", untested, "");
        Check.due("is there", text.isEmpty() ? 0 : 1, 1);
    }
}
