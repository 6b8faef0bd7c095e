import java.util.ArrayList;
import java.util.List;
import java.util.Random;

/**
 * Faults and playing of random texts against a plain recognizer of whole scores: a text can go on with a byte,
 * if some completion of it is a score.
 */
public final class GrammarOracleTest {
    private static final String BYTES = "aaab[[[]]::;;!$%1?";
    private static final List<String> COMPLETIONS = completions();

    public static void main(String[] args) {
        Random random = new Random(11);
        for (int round = 0; round < 6000; round++) {
            checkText(randomText(random));
        }
        for (int round = 0; round < 6000; round++) {
            checkText(almostScore(random));
        }
        Check.end();
    }

    private static String randomText(Random random) {
        StringBuilder text = new StringBuilder();
        int size = random.nextInt(12);
        for (int i = 0; i < size; i++) {
            text.append(BYTES.charAt(random.nextInt(BYTES.length())));
        }
        return text.toString();
    }

    private static String almostScore(Random random) {
        StringBuilder text = new StringBuilder(part(random, 0));
        int jumps = random.nextInt(3);
        if (jumps == 2) {
            text.append('%').append(part(random, 0));
        }
        if (jumps > 0) {
            text.append('!').append(part(random, 0)).append('$');
        }
        if (random.nextBoolean()) {
            char b = random.nextInt(20) == 0 ? (char) random.nextInt(256) : BYTES.charAt(random.nextInt(BYTES.length()));
            text.setCharAt(random.nextInt(text.length()), b);
        }
        return text.substring(0, Math.min(40, text.length()));
    }

    private static String part(Random random, int depth) {
        StringBuilder text = new StringBuilder();
        int items = 1 + random.nextInt(2);
        for (int i = 0; i < items; i++) {
            int kind = random.nextInt(depth < 3 ? 4 : 2);
            if (kind == 0) {
                text.append("ab".charAt(random.nextInt(2)));
            } else if (kind == 1) {
                text.append("b1");
            } else {
                text.append('[').append(part(random, depth + 1));
                if (kind == 3) {
                    text.append(':').append(part(random, depth + 1)).append(';').append(part(random, depth + 1));
                }
                text.append(']');
            }
        }
        return text.toString();
    }

    private static List<String> completions() {
        List<String> closers = new ArrayList<>(List.of(""));
        for (int from = 0, times = 0; times < 3; times++) {
            int to = closers.size();
            for (int i = from; i < to; i++) {
                closers.add(closers.get(i) + "]");
                closers.add(closers.get(i) + ";a]");
            }
            from = to;
        }
        List<String> all = new ArrayList<>();
        for (String begin : List.of("", "a")) {
            for (String closer : closers) {
                for (String end : List.of("", "$", "!a$")) {
                    all.add(begin + closer + end);
                }
            }
        }
        return all;
    }

    private static boolean canGoOn(String begun) {
        for (String completion : COMPLETIONS) {
            if (new Recognizer(begun + completion).isScore()) {
                return true;
            }
        }
        return false;
    }

    private static void checkText(String text) {
        ScoreForms x = Check.of("", text);
        int place = -1;
        if (!text.isEmpty() && !new Recognizer(text).isScore()) {
            place = 0;
            while (place < text.length() && canGoOn(text.substring(0, place + 1))) {
                place++;
            }
        }
        Check.due("fault of " + text, x.fault(1, 0), place);
        if (place < 0) {
            checkPlaying(x, text);
            return;
        }
        String begun = text.substring(0, place);
        List<Integer> open = new ArrayList<>();
        for (int i = 0; i < place; i++) {
            if (begun.charAt(i) == '[') {
                open.add(i);
            } else if (begun.charAt(i) == ']') {
                open.remove(open.size() - 1);
            }
        }
        Check.due("reason of " + text, x.fault(1, 1), place == text.length() ? 5 : reason(begun, text.charAt(place), open.size()));
        Check.due("within of " + text, x.fault(1, 2), open.size());
        for (int j = 0; j < 3; j++) {
            Check.due("within(" + j + ") of " + text, x.within(j), j < open.size() ? open.get(j) : -1);
        }
        Check.due("plays of " + text, x.plays(-1), 0);
    }

    private static int reason(String begun, char b, int open) {
        if ("[]:;!$%".indexOf(b) < 0 && !(b >= 'a' && b <= 'z') && !(b >= '0' && b <= '9')) {
            return 1;
        }
        boolean partDue = begun.isEmpty() || "[:;!%".indexOf(begun.charAt(begun.length() - 1)) >= 0;
        if (partDue && "]:;!$%".indexOf(b) >= 0) {
            return 2;
        }
        return b == '[' && open == 3 ? 3 : 4;
    }

    private static void checkPlaying(ScoreForms x, String text) {
        Recognizer whole = new Recognizer(text);
        List<Integer> played = text.isEmpty() ? new ArrayList<>() : whole.play();
        StringBuilder order = new StringBuilder();
        int[] times = new int[whole.printed];
        for (int one : played) {
            order.append(one).append(' ');
            times[one]++;
        }
        Check.due("plays of " + text, Check.plays(x), order.toString().trim());
        Check.due("printed of " + text, x.score(0), whole.printed);
        Check.due("signs of " + text, x.score(1), text.replaceAll("[a-z0-9]", "").length());
        Check.due("deep of " + text, x.score(2), whole.deepest);
        for (int i = 0; i < times.length; i++) {
            Check.due("often of " + text, x.often(i), times[i]);
        }
    }

    /** A whole score by descent; it answers what is played, or null. */
    private static final class Recognizer {
        private final String text;
        private int at = 0;
        int printed = 0;
        int deepest = 0;

        Recognizer(String text) {
            this.text = text;
        }

        boolean isScore() {
            return play() != null;
        }

        List<Integer> play() {
            at = 0;
            printed = 0;
            deepest = 0;
            List<Integer> a = part(0);
            if (a == null || at == text.length()) {
                return a;
            }
            List<Integer> b = null;
            if (skip('%')) {
                b = part(0);
                if (b == null) {
                    return null;
                }
            }
            if (!skip('!')) {
                return null;
            }
            List<Integer> c = part(0);
            if (c == null || !skip('$') || at != text.length()) {
                return null;
            }
            return b == null ? join(a, c, a) : join(a, b, c, b);
        }

        private boolean skip(char c) {
            boolean is = at < text.length() && text.charAt(at) == c;
            at += is ? 1 : 0;
            return is;
        }

        @SafeVarargs
        private static List<Integer> join(List<Integer>... parts) {
            List<Integer> all = new ArrayList<>();
            for (List<Integer> part : parts) {
                all.addAll(part);
            }
            return all;
        }

        private List<Integer> part(int depth) {
            List<Integer> all = new ArrayList<>();
            while (at < text.length()) {
                char c = text.charAt(at);
                if (c >= 'a' && c <= 'z') {
                    at++;
                    all.add(printed++);
                    if (at < text.length() && text.charAt(at) >= '0' && text.charAt(at) <= '9') {
                        at++;
                    }
                } else if (c == '[') {
                    List<Integer> item = depth < 3 ? item(depth + 1) : null;
                    if (item == null) {
                        return null;
                    }
                    all.addAll(item);
                } else {
                    break;
                }
            }
            return all.isEmpty() ? null : all;
        }

        private List<Integer> item(int depth) {
            at++;
            deepest = Math.max(deepest, depth);
            List<Integer> a = part(depth);
            if (a == null) {
                return null;
            }
            if (skip(']')) {
                return join(a, a);
            }
            List<Integer> b = skip(':') ? part(depth) : null;
            List<Integer> c = b != null && skip(';') ? part(depth) : null;
            return c != null && skip(']') ? join(a, b, a, c) : null;
        }
    }
}
