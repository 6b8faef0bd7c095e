/** The document's first sentence, which tells what the class is for: each of its clauses by calls that answer it. */
final class OpeningEdges {
    private static final int NONE = ScoreForms.NONE, RUN = Check.RUN, SCORE = Check.SCORE;
    private static final int STRAY = 4;
    private static final String[] RUNS = {"a", "aa", "abab", "abac", "abcab", "abcb", "a1a1a", "abcabdxabcabd", "xabcyabcz",
        "aaaaaaaaaaaaaaaaaaaaaaaa", "aabaabaacaabaabaacaabaab", "a1b2a1b3a1b2a1b3", "abcdefghijklmnopqrstuvwx"};

    private OpeningEdges() {
    }

    static void run() {
        smallestScore();
        theRun();
        theScore();
        faults();
        playing();
        spans();
        found();
        mend();
    }

    private static void about(String words) {
        Document.heading(Document.WHAT_IT_IS, words);
    }

    private static void smallestScore() {
        about("Form found: the smallest score with repeats, endings and jumps that plays out to a given long run of bars");
        for (String run : RUNS) {
            for (int depth = 0; depth <= 3; depth++) {
                ScoreForms x = Check.of(run, "");
                x.depth(depth);
                Check.tell(x, SCORE, Check.shown(x));
                Check.due("what is found of " + run + " at " + depth + " plays it", x.same(), 1);
                Check.due("found(0) of " + run + " at " + depth, x.found(0), x.score(0));
                Check.due("found(1) of " + run + " at " + depth, x.found(1), x.score(1));
                Check.due("[ of " + run + " go deeper than " + depth, x.score(2) <= depth ? 0 : 1, 0);
                Check.due("it takes more bars than " + run, x.found(0) <= x.count(1) ? 0 : 1, 0);
            }
        }
    }

    private static void theRun() {
        about("bars alike by what is in them");
        ScoreForms x = Check.of("a1aa1a2", "");
        Calls.due(x, 1, "alike", 0, 2);
        Calls.due(x, 0, "alike", 0, 1);
        Calls.due(x, 0, "alike", 0, 3);
        about("a run of bars, told byte by byte");
        Calls.due(x, 4, "count", 1);
        Calls.due(x, 8, "type", RUN, 'b');
        Calls.due(x, 5, "count", 1);
        Calls.due(x, 9, "type", RUN, '3');
        Calls.due(x, 5, "count", 1);
    }

    private static void checkPlays(String score, String run) {
        Check.due(score + " plays " + run, Check.of(run, score).same(), 1);
    }

    private static void theScore() {
        about("a score with signs for repeats, for two endings, for once more from the beginning, or from a sign, to the end told");
        checkPlays("a[bc]d", "abcbcd");
        checkPlays("a[b:c;d]e", "abcbde");
        checkPlays("ab!c$", "abcab");
        checkPlays("a%bc!d$", "abcdbc");
    }

    private static void faults() {
        about("where a score cannot go on, why, and in which repeats that is");
        ScoreForms x = Check.of("", "[a]b[c[d%");
        Calls.due(x, 8, "fault", SCORE, 0);
        Calls.due(x, STRAY, "fault", SCORE, 1);
        Calls.due(x, 2, "fault", SCORE, 2);
        Calls.due(x, 4, "within", 0);
        Calls.due(x, 6, "within", 1);
    }

    private static void playing() {
        ScoreForms x = Check.of("", "[a:b;c]d");
        about("what it plays, bar by bar, which printed bar that is");
        Check.due("plays of [a:b;c]d", Check.plays(x), "0 1 0 2 3");
        about("how often each is played");
        Calls.due(x, 2, "often", 0);
        Calls.due(x, 1, "often", 3);
    }

    private static void spans() {
        ScoreForms x = Check.of("aabaabc", "");
        about("of every span of the run the fewest bars it may be printed by, the fewest signs besides");
        for (int i = 0; i < 7; i++) {
            Calls.due(x, 1, "span", 0, i, i + 1, 0);
            Calls.due(x, 0, "span", 3, i, i + 1, 1);
        }
        Calls.due(x, 6, "span", 0, 0, 6, 0);
        Calls.due(x, 0, "span", 0, 0, 6, 1);
        about("repeats as deep as they may be");
        Calls.due(x, 3, "span", 1, 0, 6, 0);
        Calls.due(x, 2, "span", 1, 0, 6, 1);
        Calls.due(x, 2, "span", 2, 0, 6, 0);
        Calls.due(x, 4, "span", 2, 0, 6, 1);
        Calls.due(x, 2, "span", 3, 0, 6, 0);
    }

    private static void found() {
        about("the whole by jumps too");
        ScoreForms x = Check.of("abcab", "");
        Calls.due(x, 4, "span", 2, 0, 5, 0);
        Calls.due(x, 3, "found", 0);
        Calls.due(x, 1, "found", 2);
        about("the score that is found, as bytes");
        Check.due("found of abcab", Check.shown(x), "ab!c$");
        Calls.due(x, 9, "sheet", 0, 0, 9);
        Calls.due(x, 5, "write", 0);
        Calls.due(x, '!', "get", 0, 0, 2);
        Calls.due(x, NONE, "shown", 5);
    }

    private static void mend() {
        about("which bar of the run had better not be.");
        Calls.due(Check.of("abxab", ""), 2, "mend", 0);
        Calls.due(Check.of("xabab", ""), 0, "mend", 0);
    }
}
