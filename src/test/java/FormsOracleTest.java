import java.util.ArrayList;
import java.util.HashMap;
import java.util.LinkedHashSet;
import java.util.List;
import java.util.Map;
import java.util.Random;
import java.util.Set;

/** BEST, FOUND and MEND against two plain searches over texts: every score there is, and the document's order. */
public final class FormsOracleTest {
    private static final Map<String, Set<String>> EVERY = new HashMap<>();
    private static final Map<String, String> BEST = new HashMap<>();

    public static void main(String[] args) {
        for (int length = 1; length <= 7; length++) {
            everyRun("", length);
        }
        Random random = new Random(7);
        for (int round = 0; round < 300; round++) {
            EVERY.clear();
            BEST.clear();
            checkWhole(randomRun(random));
            String played = playedPart(random, 0);
            checkWhole(played.substring(0, Math.min(24, played.length())));
        }
        for (String run : new String[] {"aaaaaaaaaaaaaaaaaaaaaaaa", "abababababababababababab", "aabaabaabaabaabaabaabaab",
            "abacabadabacabaeabacabad", "a1b1a1b1a1c1a1b1a1b1a1c1", "aabbaaccaabbaaddaabbaacc"}) {
            checkWhole(run);
        }
        Check.end();
    }

    private static void everyRun(String begun, int length) {
        if (length == 0) {
            checkSmall(begun);
            return;
        }
        for (char c = 'a'; c <= (begun.length() > 4 ? 'b' : 'c'); c++) {
            everyRun(begun + c, length - 1);
        }
    }

    private static String randomRun(Random random) {
        StringBuilder run = new StringBuilder();
        int letters = 1 + random.nextInt(3);
        int bytes = 1 + random.nextInt(24);
        while (run.length() < bytes) {
            if (run.length() > 1 && random.nextInt(3) == 0) {
                int from = random.nextInt(run.length());
                run.append(run, from, Math.min(run.length(), from + 1 + random.nextInt(8)));
            } else {
                run.append((char) ('a' + random.nextInt(letters)));
            }
            if (random.nextInt(8) == 0) {
                run.append(random.nextInt(2));
            }
        }
        String told = run.substring(0, Math.min(24, run.length()));
        return told.replaceAll("([0-9])[0-9]+", "$1").replaceAll("^[0-9]+", "");
    }

    /** What some score plays: such a run has repeats within repeats far more often than letters drawn by lot. */
    private static String playedPart(Random random, int depth) {
        StringBuilder played = new StringBuilder();
        int items = 1 + random.nextInt(3);
        for (int k = 0; k < items; k++) {
            int kind = depth < 4 ? random.nextInt(4) : 0;
            String a = kind < 2 ? "" + (char) ('a' + random.nextInt(5)) : playedPart(random, depth + 1);
            if (kind < 2) {
                played.append(a);
            } else if (kind == 2) {
                played.append(a).append(a);
            } else {
                played.append(a).append(playedPart(random, depth + 1)).append(a).append(playedPart(random, depth + 1));
            }
        }
        return played.toString();
    }

    // ---- every score there is

    private static void checkSmall(String run) {
        ScoreForms x = Check.of(run, "");
        for (int depth = 0; depth <= 3; depth++) {
            int least = Integer.MAX_VALUE;
            for (String text : every(depth, run)) {
                least = Math.min(least, weight(text));
            }
            Check.due("span bars of " + run, x.span(depth, 0, run.length(), 0), least / 1000);
            Check.due("span signs of " + run, x.span(depth, 0, run.length(), 1), least % 1000);
            x.depth(depth);
            least = Math.min(least, leastWithJumps(depth, run));
            Check.due("found bars of " + run, x.found(0), least / 1000);
            Check.due("found signs of " + run, x.found(1), least % 1000);
        }
        checkWhole(run);
    }

    private static int leastWithJumps(int depth, String run) {
        int least = Integer.MAX_VALUE;
        for (int p = 1; p < run.length(); p++) {
            for (int q = p + 1; q <= run.length(); q++) {
                String a = run.substring(0, p);
                String b = run.substring(p, q);
                if (run.equals(a + b + a)) {
                    least = Math.min(least, leastOf(depth, a) + leastOf(depth, b) + 2);
                }
                int r = run.length() - b.length();
                if (r > q && run.endsWith(b)) {
                    least = Math.min(least, leastOf(depth, a) + leastOf(depth, b) + leastOf(depth, run.substring(q, r)) + 3);
                }
            }
        }
        return least;
    }

    private static int leastOf(int depth, String run) {
        int least = Integer.MAX_VALUE;
        for (String text : every(depth, run)) {
            least = Math.min(least, weight(text));
        }
        return least;
    }

    /** All parts that play the run, item by item. */
    private static Set<String> every(int depth, String run) {
        String key = depth + run;
        if (EVERY.containsKey(key)) {
            return EVERY.get(key);
        }
        Set<String> all = new LinkedHashSet<>();
        for (int k = 1; k <= run.length(); k++) {
            for (String item : everyItem(depth, run.substring(0, k))) {
                if (k == run.length()) {
                    all.add(item);
                    continue;
                }
                for (String others : every(depth, run.substring(k))) {
                    all.add(item + others);
                }
            }
        }
        EVERY.put(key, all);
        return all;
    }

    private static Set<String> everyItem(int depth, String run) {
        Set<String> all = new LinkedHashSet<>();
        if (run.length() == 1) {
            all.add(run);
        }
        if (depth == 0) {
            return all;
        }
        String half = run.substring(0, run.length() / 2);
        if (!half.isEmpty() && run.equals(half + half)) {
            for (String part : every(depth - 1, half)) {
                all.add("[" + part + "]");
            }
        }
        for (int p = 1; p < run.length(); p++) {
            for (int q = p + 1; q < run.length(); q++) {
                String a = run.substring(0, p);
                if (run.startsWith(a, q) && q + p < run.length()) {
                    addEndings(all, depth - 1, a, run.substring(p, q), run.substring(q + p));
                }
            }
        }
        return all;
    }

    private static void addEndings(Set<String> all, int depth, String a, String b, String c) {
        for (String first : every(depth, a)) {
            for (String second : every(depth, b)) {
                for (String third : every(depth, c)) {
                    all.add("[" + first + ":" + second + ";" + third + "]");
                }
            }
        }
    }

    private static int weight(String text) {
        int weight = 0;
        for (char c : text.toCharArray()) {
            weight += c >= 'a' && c <= 'z' ? 1000 : c >= '0' && c <= '9' ? 0 : 1;
        }
        return weight;
    }

    // ---- the document's order

    private static void checkWhole(String run) {
        List<String> bars = split(run);
        for (int depth = 0; depth <= 3; depth++) {
            ScoreForms x = Check.of(run, "");
            x.depth(depth);
            checkFound(x, run, found(depth, bars));
            checkMend(x, depth, bars);
            checkSpans(run, depth, bars);
        }
    }

    private static void checkFound(ScoreForms x, String run, String found) {
        Check.due("found of " + run, Check.shown(x), found);
        Check.due("found(2) of " + run, x.found(2), found.contains("%") ? 2 : found.contains("!") ? 1 : 0);
        Check.due("found(3) of " + run, x.found(3), found.length());
        if (found.length() <= 40) {
            Check.tell(x, Check.SCORE, found);
            Check.due("found plays " + run, x.same(), 1);
            Check.due("found prints " + run, x.score(0), x.found(0));
            Check.due("found signs " + run, x.score(1), x.found(1));
        }
    }

    // An object of its own: with the calls for FOUND there would be more than 512.
    private static void checkSpans(String run, int depth, List<String> bars) {
        int size = bars.size();
        ScoreForms x = Check.of(run, "");
        for (int i = 0; i < size; i += 1 + size / 6) {
            for (int j = i + 1; j <= size; j++) {
                int weight = weight(best(depth, bars.subList(i, j)));
                Check.due("span of " + run, x.span(depth, i, j, 0), weight / 1000);
                Check.due("span of " + run, x.span(depth, i, j, 1), weight % 1000);
            }
        }
    }

    private static void checkMend(ScoreForms x, int depth, List<String> bars) {
        int which = -1;
        int least = Integer.MAX_VALUE;
        for (int k = 0; k < bars.size(); k++) {
            List<String> rest = new ArrayList<>(bars);
            rest.remove(k);
            int weight = weight(found(depth, rest));
            if (weight < least) {
                least = weight;
                which = k;
            }
        }
        Check.due("mend(0) of " + bars, x.mend(0), which);
        Check.due("mend(1) of " + bars, x.mend(1), which < 0 ? -1 : least / 1000);
        Check.due("mend(2) of " + bars, x.mend(2), which < 0 ? -1 : least % 1000);
    }

    private static List<String> split(String run) {
        List<String> bars = new ArrayList<>();
        for (char c : run.toCharArray()) {
            if (c >= 'a') {
                bars.add("" + c);
            } else {
                bars.set(bars.size() - 1, bars.get(bars.size() - 1) + c);
            }
        }
        return bars;
    }

    private static String earliestLightest(List<String> offers) {
        String best = "";
        for (String offer : offers) {
            if (best.isEmpty() || weight(offer) < weight(best)) {
                best = offer;
            }
        }
        return best;
    }

    private static String found(int depth, List<String> run) {
        int n = run.size();
        List<String> offers = new ArrayList<>();
        if (n == 0) {
            return "";
        }
        offers.add(best(depth, run));
        for (int a = 1; a < n; a++) {
            if (n - a > a && run.subList(0, a).equals(run.subList(n - a, n))) {
                offers.add(best(depth, run.subList(0, a)) + "!" + best(depth, run.subList(a, n - a)) + "$");
            }
        }
        for (int a = 1; a < n; a++) {
            for (int b = 1; n - b > a + b; b++) {
                if (run.subList(a, a + b).equals(run.subList(n - b, n))) {
                    offers.add(best(depth, run.subList(0, a)) + "%" + best(depth, run.subList(a, a + b)) + "!"
                        + best(depth, run.subList(a + b, n - b)) + "$");
                }
            }
        }
        return earliestLightest(offers);
    }

    private static String best(int depth, List<String> run) {
        String key = depth + String.join("", run);
        if (BEST.containsKey(key)) {
            return BEST.get(key);
        }
        int n = run.size();
        List<String> offers = new ArrayList<>();
        if (n == 1) {
            offers.add(run.get(0));
        }
        for (int k = 1; k < n; k++) {
            offers.add(best(depth, run.subList(0, k)) + best(depth, run.subList(k, n)));
        }
        if (depth > 0 && n % 2 == 0 && run.subList(0, n / 2).equals(run.subList(n / 2, n))) {
            offers.add("[" + best(depth - 1, run.subList(0, n / 2)) + "]");
        }
        for (int p = 1; depth > 0 && p < n; p++) {
            for (int q = 1; p + q + p < n; q++) {
                if (run.subList(0, p).equals(run.subList(p + q, p + q + p))) {
                    offers.add("[" + best(depth - 1, run.subList(0, p)) + ":" + best(depth - 1, run.subList(p, p + q)) + ";"
                        + best(depth - 1, run.subList(p + q + p, n)) + "]");
                }
            }
        }
        String best = earliestLightest(offers);
        BEST.put(key, best);
        return best;
    }
}
