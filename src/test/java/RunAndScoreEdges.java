/** The edges of what is asked of THE RUN and of THE SCORE: promises 9 to 16. */
final class RunAndScoreEdges {
    private static final int NONE = ScoreForms.NONE, BAD = ScoreForms.BAD, NOT = ScoreForms.NOT;
    private static final int SCORE = Check.SCORE;
    private static final int LEAST = Integer.MIN_VALUE, MOST = Integer.MAX_VALUE;
    private static final String LONGEST = "[[[abcdefghijklmnopqrstuvwxyzabcde]]]!f$";

    private RunAndScoreEdges() {
    }

    static void run() {
        bar();
        alike();
        again();
        plays();
        often();
        score();
        same();
        first();
    }

    private static void bar() {
        Document.promise(9, "The NUMBER of a BAR of THE RUN");
        ScoreForms x = Check.of("b1ab1b", "");
        Calls.due(x, 0, "bar", 0);
        Calls.due(x, 1, "bar", 1);
        Calls.due(x, 0, "bar", 2);
        Calls.due(x, 2, "bar", 3);
        ScoreForms full = Check.of("abcdefghijklmnopqrstuvwx", "");
        Calls.due(full, 23, "bar", 23);
        Document.promise(9, "BAD");
        for (int i : new int[] {LEAST, -1, 4, 24, MOST}) {
            Calls.due(x, BAD, "bar", i);
        }
        Calls.due(full, BAD, "bar", 24);
        Calls.due(full, BAD, "bar", -1);
        Calls.due(new ScoreForms(), BAD, "bar", 0);
    }

    private static void alike() {
        Document.promise(10, "How many BARS from i on are ALIKE those from j on, one by one");
        ScoreForms x = Check.of("abababc", "");
        Calls.due(x, 4, "alike", 0, 2);
        Calls.due(x, 4, "alike", 2, 0);
        Calls.due(x, 2, "alike", 0, 4);
        Calls.due(x, 0, "alike", 0, 1);
        Calls.due(x, 7, "alike", 0, 0);
        Calls.due(x, 1, "alike", 6, 6);
        Document.promise(10, "(0 to 24 each; 0: behind THE RUN)");
        Calls.due(x, 0, "alike", 7, 7);
        Calls.due(x, 0, "alike", 0, 7);
        Calls.due(x, 0, "alike", 24, 0);
        Calls.due(x, 0, "alike", 24, 24);
        ScoreForms full = Check.of(TextEdges.times("a", 24), "");
        Calls.due(full, 24, "alike", 0, 0);
        Calls.due(full, 23, "alike", 0, 1);
        Calls.due(full, 23, "alike", 1, 0);
        Calls.due(full, 1, "alike", 0, 23);
        Calls.due(full, 0, "alike", 0, 24);
        Calls.due(full, 0, "alike", 24, 0);
        Check.tell(full, Check.RUN, "aa");
        for (int behind = 2; behind <= 24; behind++) {
            Calls.due(full, 0, "alike", 0, behind);
            Calls.due(full, 0, "alike", behind, 1);
        }
        Calls.due(new ScoreForms(), 0, "alike", 0, 0);
        Calls.due(new ScoreForms(), 0, "alike", 24, 24);
        Document.promise(10, "BAD");
        for (int wrong : new int[] {LEAST, -1, 25, MOST}) {
            Calls.due(full, BAD, "alike", wrong, 0);
            Calls.due(full, BAD, "alike", 0, wrong);
            Calls.due(new ScoreForms(), BAD, "alike", wrong, wrong);
        }
    }

    private static void again() {
        Document.promise(11, "How often the BARS from i to ahead of j are there, one time behind another, from i on");
        ScoreForms x = Check.of("ababacab", "");
        Calls.due(x, 2, "again", 0, 2);
        Calls.due(x, 1, "again", 2, 4);
        Calls.due(x, 1, "again", 0, 1);
        Calls.due(x, 1, "again", 0, 8);
        Calls.due(x, 1, "again", 7, 8);
        ScoreForms full = Check.of(TextEdges.times("a", 24), "");
        ScoreForms later = Check.of("xxabababx", "");
        Calls.due(later, 3, "again", 2, 4);
        Calls.due(later, 2, "again", 3, 5);
        Calls.due(full, 24, "again", 0, 1);
        Calls.due(full, 4, "again", 12, 15);
        Calls.due(full, 4, "again", 0, 5);
        Calls.due(full, 2, "again", 0, 12);
        Calls.due(full, 1, "again", 0, 13);
        Calls.due(full, 1, "again", 0, 24);
        Calls.due(full, 1, "again", 23, 24);
        Document.promise(11, "BAD: not 0 to as many as there are");
        for (int wrong : new int[] {LEAST, -1, 9, 24, MOST}) {
            Calls.due(x, BAD, "again", wrong, 8);
            Calls.due(x, BAD, "again", 0, wrong);
            Calls.due(x, BAD, "again", wrong, wrong);
        }
        Calls.due(full, BAD, "again", 0, 25);
        Calls.due(new ScoreForms(), BAD, "again", 0, 1);
        Document.promise(11, "NOT: j is no more than i");
        Calls.due(x, NOT, "again", 0, 0);
        Calls.due(x, NOT, "again", 8, 8);
        Calls.due(x, NOT, "again", 3, 2);
        Calls.due(full, NOT, "again", 24, 0);
        Calls.due(new ScoreForms(), NOT, "again", 0, 0);
    }

    private static void plays() {
        Document.promise(12, "How many BARS THE SCORE PLAYS (i = NONE)");
        ScoreForms x = Check.of("", "[a:b1;c]");
        Calls.due(x, 4, "plays", NONE);
        Calls.due(new ScoreForms(), 0, "plays", NONE);
        ScoreForms longest = Check.of("", LONGEST);
        Calls.due(longest, 31 * 8 * 2 + 1, "plays", NONE);
        Document.promise(12, "the printed BAR (0 on, as they are printed) that is the i-th (0 to 639; NONE)");
        int[] order = {0, 1, 0, 2, NONE};
        for (int i = 0; i < order.length; i++) {
            Calls.due(x, order[i], "plays", i);
        }
        Calls.due(longest, 0, "plays", 0);
        Calls.due(longest, 30, "plays", 247);
        Calls.due(longest, 31, "plays", 248);
        Calls.due(longest, 0, "plays", 249);
        Calls.due(longest, 30, "plays", 496);
        Calls.due(longest, NONE, "plays", 497);
        Calls.due(longest, NONE, "plays", 639);
        Calls.due(new ScoreForms(), NONE, "plays", 0);
        Calls.due(new ScoreForms(), NONE, "plays", 639);
        Calls.due(Check.of("", TextEdges.times("a", 40)), 39, "plays", 39);
        Document.promise(12, "BAD");
        for (int i : new int[] {LEAST, -2, 640, MOST}) {
            Calls.due(longest, BAD, "plays", i);
            Calls.due(new ScoreForms(), BAD, "plays", i);
        }
    }

    private static void often() {
        Document.promise(13, "How often a printed BAR is played");
        ScoreForms x = Check.of("", "a[b:[c];d]%e![f]$");
        int[] times = {1, 2, 2, 1, 2, 2};
        for (int printed = 0; printed < times.length; printed++) {
            Calls.due(x, times[printed], "often", printed);
        }
        ScoreForms longest = Check.of("", LONGEST);
        Calls.due(longest, 16, "often", 0);
        Calls.due(longest, 16, "often", 30);
        Calls.due(longest, 1, "often", 31);
        Calls.due(Check.of("", TextEdges.times("a", 40)), 1, "often", 39);
        Document.promise(13, "BAD: there is no such one");
        for (int printed : new int[] {LEAST, -1, 6, 40, MOST}) {
            Calls.due(x, BAD, "often", printed);
        }
        Calls.due(longest, BAD, "often", 32);
        Calls.due(Check.of("", TextEdges.times("a", 40)), BAD, "often", 40);
        Calls.due(new ScoreForms(), BAD, "often", 0);
    }

    private static void score() {
        Document.promise(14, "Printed BARS of THE SCORE (what = 0), signs (1), how deep [ go (2)");
        checkScore("", 0, 0, 0);
        checkScore("a", 1, 0, 0);
        checkScore("a1b2", 2, 0, 0);
        checkScore("a!b$", 2, 2, 0);
        checkScore("a%b!c$", 3, 3, 0);
        checkScore("[a][b]", 2, 4, 1);
        checkScore("[a:b;c]", 3, 4, 1);
        checkScore("[[[a]]]b[c]", 3, 8, 3);
        checkScore("[a[b]][c]", 3, 6, 2);
        checkScore(TextEdges.times("a", 40), 40, 0, 0);
        checkScore(LONGEST, 32, 8, 3);
        Document.promise(14, "BAD");
        for (int what : new int[] {LEAST, -1, 3, MOST}) {
            Calls.due(Check.of("", "[a]"), BAD, "score", what);
            Calls.due(new ScoreForms(), BAD, "score", what);
        }
    }

    private static void checkScore(String score, int bars, int signs, int deep) {
        ScoreForms x = Check.of("", score);
        Check.due("fault(1, 0) of " + score, x.fault(SCORE, 0), NONE);
        Check.due("score(0) of " + score, x.score(0), bars);
        Check.due("score(1) of " + score, x.score(1), signs);
        Check.due("score(2) of " + score, x.score(2), deep);
    }

    private static void same() {
        Document.promise(15, "Whether THE SCORE PLAYS THE RUN: 1, 0");
        checkSame("", "", 1);
        checkSame("", "a", 0);
        checkSame("a", "", 0);
        checkSame("a", "a", 1);
        checkSame("abab", "[ab]", 1);
        checkSame("abac", "[a:b;c]", 1);
        checkSame("aba", "a!b$", 1);
        checkSame("abcb", "a%b!c$", 1);
        checkSame("aba", "[ab]", 0);
        checkSame("ababa", "[ab]", 0);
        checkSame("a1", "a", 0);
        checkSame("a1", "a2", 0);
        checkSame(TextEdges.times("a", 24), TextEdges.times("a", 24), 1);
        checkSame(TextEdges.times("a", 24), TextEdges.times("a", 25), 0);
        checkSame(TextEdges.times("a", 24), "[[[aaa]]]", 1);
        checkSame("?", "", 1);
        checkSame("", "?", 1);
    }

    private static void checkSame(String run, String score, int due) {
        Check.due("same() of " + run + " and " + score, Check.of(run, score).same(), due);
    }

    private static void first() {
        Document.promise(16, "The first BAR (0 on) in which THE SCORE and THE RUN are not ALIKE");
        checkFirst("a", "b", 0);
        checkFirst("ab1ac", "ab2ad", 1);
        checkFirst("abac", "[ab]", 3);
        checkFirst(TextEdges.times("a", 23) + "b", TextEdges.times("a", 40), 23);
        Document.promise(16, "(one that is there in one alone, too)");
        checkFirst("", "a", 0);
        checkFirst("a", "", 0);
        checkFirst("ababa", "[ab]", 4);
        checkFirst("aba", "[ab]", 3);
        checkFirst(TextEdges.times("a", 24), TextEdges.times("a", 25), 24);
        checkFirst(TextEdges.times("a", 24), LONGEST, 1);
        Document.promise(16, "NONE");
        checkFirst("", "", NONE);
        checkFirst("?", "[", NONE);
        checkFirst("abab", "[ab]", NONE);
        checkFirst(TextEdges.times("a", 24), "[[[aaa]]]", NONE);
    }

    private static void checkFirst(String run, String score, int due) {
        Check.due("first() of " + run + " and " + score, Check.of(run, score).first(), due);
    }
}
