import java.nio.file.Files;
import java.nio.file.Path;
import java.util.ArrayList;
import java.util.LinkedHashMap;
import java.util.List;
import java.util.Map;
import java.util.TreeSet;
import java.util.regex.Matcher;
import java.util.regex.Pattern;
import java.util.stream.Collectors;
import java.util.stream.Stream;

/** What README.md shows of calls and answers is what the class answers, and it shows every call of the document. */
public final class ReadmeTest {
    private static final Pattern MAKING = Pattern.compile("ScoreForms x = new ScoreForms\\(\\);");
    private static final Pattern TELLING =
        Pattern.compile("for \\(char b : \"([^\"]*)\"\\.toCharArray\\(\\)\\) \\{ x\\.type\\(([01]), b\\); \\}");
    private static final Pattern CALL = Pattern.compile("x\\.(\\w+)\\((.*)\\); +// ([^:]+|':')(: .*)?");
    private static final Pattern SCORE_ROW = Pattern.compile("\\| `([^`]*[\\[!][^`]*)` \\| `([^`]*)`: .* \\|");
    private static final Pattern REFUSAL_ROW = Pattern.compile("\\| (-\\d+) \\| `?(\\w+)`? \\| .* \\|");
    private static final Pattern TEST_ROW = Pattern.compile("\\| (\\w+Test) \\| .* \\|");

    private static final Map<String, List<String>> SHOWN = new LinkedHashMap<>();
    private static final List<String> REFUSALS = new ArrayList<>();
    private static final TreeSet<String> TESTS = new TreeSet<>();
    private static ScoreForms x = null;
    private static int scores = 0;

    public static void main(String[] args) throws Exception {
        String root = args.length > 0 ? args[0] : ".";
        readAll(Files.readAllLines(Path.of(root, "README.md")));
        checkGroups(Path.of(root, "..", "shared", "DOC.md"));
        Check.about("README.md", "Refused calls");
        Check.due("the refusals", REFUSALS.toString(), "[-2 BAD, -3 NOT, -4 FULL, -11 NULL, -12 INDEX, -13 CAST, -14 STORE, -15 SIZE]");
        Check.due("BAD, NOT, FULL", "" + ScoreForms.BAD + ScoreForms.NOT + ScoreForms.FULL, "-2-3-4");
        Check.about("README.md", "Tests");
        Check.due("the tests", TESTS.toString(), testFiles(Path.of(root, "src/test/java")).toString());
        Check.about("README.md", "Use");
        Check.due("scores that are shown", scores, 4);
        Check.end();
    }

    private static void readAll(List<String> lines) {
        String heading = "";
        String fence = "";
        for (String line : lines) {
            if (line.startsWith("```")) {
                fence = fence.isEmpty() ? line : "";
            } else if (fence.equals("```java")) {
                Check.about("README.md", heading);
                obey(heading, line.trim());
            } else if (fence.isEmpty() && line.startsWith("#")) {
                heading = line.replaceAll("#+ ", "");
                // What one heading shows must not rest on what another has left.
                x = null;
            } else if (fence.isEmpty()) {
                Check.about("README.md", heading);
                readRow(line);
            }
        }
    }

    private static void readRow(String line) {
        Matcher score = SCORE_ROW.matcher(line);
        Matcher refusal = REFUSAL_ROW.matcher(line);
        Matcher test = TEST_ROW.matcher(line);
        if (score.matches()) {
            scores++;
            ScoreForms shown = Check.of(score.group(2), score.group(1));
            Check.due(score.group(1) + " plays " + score.group(2), shown.same(), 1);
        } else if (refusal.matches()) {
            REFUSALS.add(refusal.group(1) + " " + refusal.group(2));
        } else if (test.matches()) {
            TESTS.add(test.group(1));
        }
    }

    /** A line that is of none of these kinds is wrong: it could show what nothing looks at. */
    private static void obey(String heading, String line) {
        Matcher telling = TELLING.matcher(line);
        Matcher call = CALL.matcher(line);
        if (MAKING.matcher(line).matches()) {
            x = new ScoreForms();
        } else if (x != null && telling.matches()) {
            for (char b : telling.group(1).toCharArray()) {
                Check.due(line, Math.min(x.type(Integer.parseInt(telling.group(2)), b), 1), 1);
            }
        } else if (x != null && call.matches()) {
            SHOWN.computeIfAbsent(heading, key -> new ArrayList<>()).add(call.group(1));
            checkCall(line, call.group(1), call.group(2), call.group(3).trim());
        } else {
            Check.due("a line that can be read", line, "");
        }
    }

    private static void checkCall(String line, String name, String arguments, String answer) {
        if (name.equals("digest")) {
            Check.due(line, x.digest(), Long.parseLong(answer));
            return;
        }
        String[] told = arguments.isEmpty() ? new String[0] : arguments.split(", ");
        int[] numbers = new int[told.length];
        for (int i = 0; i < told.length; i++) {
            numbers[i] = number(told[i]);
        }
        Check.due(line, Calls.act(x, name, numbers), number(answer));
        if (name.equals("write") || name.equals("found") && numbers[0] == 3) {
            String bytes = Check.shown(x);
            Check.due("the words end in the bytes: " + line, line.endsWith(": " + bytes) ? 1 : 0, 1);
        }
    }

    private static int number(String told) {
        switch (told) {
            case "ScoreForms.NONE": return ScoreForms.NONE;
            case "ScoreForms.BAD": return ScoreForms.BAD;
            case "ScoreForms.NOT": return ScoreForms.NOT;
            case "ScoreForms.FULL": return ScoreForms.FULL;
            case "Integer.MIN_VALUE": return Integer.MIN_VALUE;
            default: return told.matches("'.'") ? told.charAt(1) : Integer.parseInt(told);
        }
    }

    private static void checkGroups(Path document) throws Exception {
        for (Map.Entry<String, List<String>> group : Document.groups(document).entrySet()) {
            String heading = group.getKey().substring(0, 1).toUpperCase() + group.getKey().substring(1);
            Check.about("README.md", heading);
            for (String call : group.getValue()) {
                boolean shown = SHOWN.getOrDefault(heading, List.of()).contains(call);
                Check.due(call + " is shown", shown ? 1 : 0, 1);
            }
        }
    }

    private static TreeSet<String> testFiles(Path directory) throws Exception {
        try (Stream<Path> files = Files.list(directory)) {
            return files.map(file -> file.getFileName().toString())
                .filter(name -> name.endsWith("Test.java"))
                .map(name -> name.replace(".java", ""))
                .collect(Collectors.toCollection(TreeSet::new));
        }
    }
}
