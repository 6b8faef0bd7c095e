/** The edges of what is found: promises 17 to 20, and the words on BEST, FOUND and MEND. */
final class FormEdges {
    private static final int NONE = ScoreForms.NONE, BAD = ScoreForms.BAD, NOT = ScoreForms.NOT;
    private static final int RUN = Check.RUN;
    private static final int LEAST = Integer.MIN_VALUE, MOST = Integer.MAX_VALUE;
    // Six times two endings: longer as a score than as a run, and longer than THE SCORE could hold.
    private static final String WIDEST = "abacdedfghgijkjlmnmopqpr";
    private static final String WIDEST_FOUND = "[a:b;c][d:e;f][g:h;i][j:k;l][m:n;o][p:q;r]";

    private FormEdges() {
    }

    static void run() {
        spansAndDepths();
        best();
        bestOfTwoParts();
        bestOfRepeats();
        bestOfEndings();
        jumpFromBeginning();
        jumpFromSign();
        foundOfLikeOnes();
        mendWords();
        span();
        spanRefused();
        found();
        shown();
        mend();
    }

    private static void checkFound(String run, int depth, String due) {
        ScoreForms x = Check.of(run, "");
        x.depth(depth);
        Check.due("found of " + run + " at depth " + depth, Check.shown(x), due);
        Check.due("found(0) of " + run, x.found(0), due.replaceAll("[^a-z]", "").length());
        Check.due("found(1) of " + run, x.found(1), due.replaceAll("[a-z0-9]", "").length());
        Check.due("found(2) of " + run, x.found(2), due.contains("%") ? 2 : due.contains("!") ? 1 : 0);
        Check.due("found(3) of " + run, x.found(3), due.length());
    }

    private static void checkSpan(ScoreForms x, int depth, int i, int j, int bars, int signs) {
        Calls.due(x, bars, "span", depth, i, j, 0);
        Calls.due(x, signs, "span", depth, i, j, 1);
    }

    private static void spansAndDepths() {
        Document.heading(Document.TERMS, "A SPAN of THE RUN, from BAR i to ahead of j, can be printed by BARS and signs "
            + "(each byte of a SCORE that is not of a BAR is a sign)");
        ScoreForms some = Check.of("ca1ba1bc", "");
        checkSpan(some, 1, 1, 5, 2, 2);
        checkSpan(some, 1, 1, 4, 3, 0);
        checkSpan(some, 1, 0, 6, 4, 2);
        checkSpan(some, 1, 2, 5, 3, 0);
        checkSpan(some, 1, 5, 6, 1, 0);
        Document.heading(Document.TERMS, "with [ within one another at most DEPTH (0 to 3; 2 at first).");
        ScoreForms x = Check.of(TextEdges.times("a", 16), "");
        checkSpan(x, 0, 0, 16, 16, 0);
        checkSpan(x, 1, 0, 16, 8, 2);
        checkSpan(x, 2, 0, 16, 4, 4);
        checkSpan(x, 3, 0, 16, 2, 6);
        checkSpan(x, 2, 0, 8, 2, 4);
        checkSpan(x, 3, 0, 8, 1, 6);
        Calls.due(x, 3, "found", 0);
        Calls.due(x, 2, "depth", 2);
        Calls.due(x, 3, "found", 0);
    }

    private static void best() {
        Document.heading(Document.TERMS, "BEST of it: with the fewest BARS");
        checkFound("aa", 1, "[a]");
        checkFound("abac", 1, "[a:b;c]");
        checkFound("abxxabyyz", 2, "[ab:[x];[y]]z");
        Document.heading(Document.TERMS, "of like ones the fewest signs");
        checkFound("aaaa", 1, "[aa]");
        checkFound("ababab", 3, "ab[ab]");
        checkFound("aabcaadz", 1, "[a]bc[a]dz");
        Document.heading(Document.TERMS, "of like ones the first of these: one BAR");
        checkFound("a", 0, "a");
        checkFound("z9", 3, "z9");
    }

    private static void bestOfTwoParts() {
        Document.heading(Document.TERMS,
            "two PARTS, one behind the other, that are BEST each, the first as short as may be");
        checkFound("ab", 3, "ab");
        checkFound("aabb", 1, "[a][b]");
        checkFound("aaa", 1, "a[a]");
        checkFound("ababa", 3, "a[ba]");
        checkFound("abacaz", 1, "ab[a:c;z]");
        // Two PARTS come ahead of two endings that are like them.
        checkFound("abacd", 1, "[a:b;c]d");
        checkFound("abacd", 3, "[a:b;c]d");
    }

    private static void bestOfRepeats() {
        Document.heading(Document.TERMS, "[ PART ], if its halves are ALIKE, the half BEST for one less DEPTH");
        checkFound("aaaa", 1, "[aa]");
        checkFound("aaaa", 2, "[[a]]");
        checkFound("aabaab", 1, "[aab]");
        checkFound("aabaab", 2, "[[a]b]");
        checkFound("a1ba1bz", 1, "[a1b]z");
        checkFound("a1az", 1, "a1az");
        checkFound(TextEdges.times("a", 8), 3, "[[[a]]]");
        checkFound("abcdefghijklabcdefghijkl", 1, "[abcdefghijkl]");
        checkFound("a1", 1, "a1");
    }

    private static void bestOfEndings() {
        Document.heading(Document.TERMS,
            "[ : ; ] of a first, a second, the first again, a third, each one BAR at least");
        checkFound("abac", 1, "[a:b;c]");
        checkFound("a1b2a1c3", 1, "[a1:b2;c3]");
        checkFound("efxyzefq", 1, "[ef:xyz;q]");
        checkFound("efqefxyz", 1, "[ef:q;x]yz");
        // No second: the first twice. No third: a jump.
        checkFound("ababc", 1, "[ab]c");
        checkFound("abxab", 1, "ab!x$");
        checkFound("abcdefghijkxabcdefghijky", 1, "[abcdefghijk:x;y]");
        Document.heading(Document.TERMS, "all BEST for one less DEPTH");
        checkFound("abac", 0, "abac");
        checkFound("xxxxbxxxxc", 1, "[xx]b[xx]c");
        checkFound("xxxxbxxxxc", 2, "[[xx]:b;c]");
        checkFound("xxxxbxxxxc", 3, "[[[x]]:b;c]");
        checkFound("efxxefg", 2, "[ef:[x];g]");
        checkFound("efxxefg", 1, "[ef:xx;g]");
        checkFound("efxxxxefg", 2, "[ef:[xx];g]");
        checkFound("efgefxx", 2, "[ef:g;[x]]");
        checkFound("efgefxxxx", 2, "[ef:g;[xx]]");
        Document.heading(Document.TERMS, "the first as short as may be, then the second as short as may be.");
        checkFound("eccabacecabcccbba", 3, "e[c:[cab:ace;[c]];[b]]a");
        checkFound("abaacdacc", 2, "[a:b;[ac:d;c]]");
    }

    private static void jumpFromBeginning() {
        Document.heading(Document.TERMS, "FOUND is for THE RUN: its BEST");
        checkFound("abab", 2, "[ab]");
        checkFound("abc", 0, "abc");
        Document.heading(Document.TERMS,
            "or ! and $: A, B, A, each one BAR at least, A and B BEST for DEPTH, A as short as may be");
        checkFound("aba", 0, "a!b$");
        checkFound("aa", 0, "aa");
        checkFound("aabbaa", 1, "[a]![b]$");
        checkFound("aabbaa", 0, "aa!bb$");
        checkFound("abcdefghijkxabcdefghijk", 0, "abcdefghijk!x$");
        checkFound(TextEdges.times("a", 8), 1, "[a]![aa]$");
    }

    private static void jumpFromSign() {
        Document.heading(Document.TERMS,
            "or % ! $: A, B, C, B, likewise, A as short as may be, then B as short as may be");
        checkFound("abcb", 0, "a%b!c$");
        checkFound("abcb", 3, "a%b!c$");
        checkFound("abb", 0, "abb");
        checkFound("aaxbcydbcy", 1, "[a]x%bcy!d$");
        checkFound("abbcddbb", 1, "a%[b]!c[d]$");
        checkFound("abcdefghijkxbcdefghijk", 0, "a%bcdefghijk!x$");
        checkFound("abbbb", 0, "a%b!bb$");
        checkFound("abbcb", 0, "a%b!bc$");
        checkFound("abbbbbbbb", 1, "a%[b]![bb]$");
    }

    private static void foundOfLikeOnes() {
        Document.heading(Document.TERMS, ": the fewest BARS");
        checkFound("abab", 0, "a%b!a$");
        checkFound("aaaaa", 0, "aa!a$");
        Document.heading(Document.TERMS, ", of like ones the fewest signs, of like ones");
        checkFound("aaa", 0, "a!a$");
        checkFound("ababa", 0, "a!bab$");
        checkFound("abcab", 1, "ab!c$");
        Document.heading(Document.TERMS, "the first as told here.");
        // A plain one has an even number of signs and one with % an odd number: those are never alike.
        checkFound("aaa", 1, "a[a]");
        checkFound("aaa", 3, "a[a]");
    }

    private static void checkMend(String run, int depth, int which, int bars, int signs) {
        ScoreForms x = Check.of(run, "");
        x.depth(depth);
        Check.due("mend(0) of " + run, x.mend(0), which);
        Check.due("mend(1) of " + run, x.mend(1), bars);
        Check.due("mend(2) of " + run, x.mend(2), signs);
        Check.due("count(1) of " + run, x.count(1), run.replaceAll("[^a-z]", "").length());
    }

    private static void mendWords() {
        Document.heading(Document.TERMS,
            "MEND: the BAR of THE RUN that had better not be, by which FOUND has the fewest BARS");
        checkMend("abxab", 2, 2, 2, 2);
        checkMend("xabab", 2, 0, 2, 2);
        checkMend("a1ba1x2b", 2, 3, 2, 2);
        checkMend("aaaa", 3, 0, 2, 2);
        Document.heading(Document.TERMS, ", of like ones the fewest signs");
        checkMend("babaa", 2, 3, 2, 2);
        checkMend("abaaa", 0, 1, 3, 2);
        Document.heading(Document.TERMS, ", of like ones the least.");
        checkMend("aaa", 2, 0, 1, 2);
        checkMend("acba", 2, 1, 2, 2);
        checkMend("abcd", 2, 0, 3, 0);
        checkMend(TextEdges.times("a", 24), 3, 0, 4, 8);
    }

    private static void span() {
        Document.promise(17, "BEST of a SPAN for a DEPTH (0 to 3): BARS (what = 0), signs (1)");
        ScoreForms x = Check.of("aabaac", "");
        checkSpan(x, 0, 0, 6, 6, 0);
        checkSpan(x, 1, 0, 6, 4, 4);
        checkSpan(x, 2, 0, 6, 3, 6);
        checkSpan(x, 3, 0, 6, 3, 6);
        checkSpan(x, 3, 5, 6, 1, 0);
        checkSpan(x, 0, 0, 1, 1, 0);
        // It goes by the DEPTH that it is given, and never by jumps.
        x.depth(0);
        checkSpan(x, 2, 0, 6, 3, 6);
        checkSpan(x, 0, 0, 5, 5, 0);
        ScoreForms full = Check.of(TextEdges.times("a", 24), "");
        checkSpan(full, 0, 0, 24, 24, 0);
        checkSpan(full, 1, 0, 24, 12, 2);
        checkSpan(full, 2, 0, 24, 6, 4);
        checkSpan(full, 3, 0, 24, 3, 6);
        checkSpan(full, 3, 23, 24, 1, 0);
    }

    private static void spanRefused() {
        ScoreForms x = Check.of("aabaac", "");
        Document.promise(17, "BAD: not 0 to as many as there are");
        for (int wrong : new int[] {LEAST, -1, 7, 24, MOST}) {
            Calls.due(x, BAD, "span", 2, wrong, 6, 0);
            Calls.due(x, BAD, "span", 2, 0, wrong, 0);
            Calls.due(x, BAD, "span", 2, wrong, wrong, 1);
        }
        for (int depth : new int[] {LEAST, -1, 4, MOST}) {
            Calls.due(x, BAD, "span", depth, 0, 6, 0);
        }
        for (int what : new int[] {LEAST, -1, 2, MOST}) {
            Calls.due(x, BAD, "span", 2, 0, 6, what);
        }
        Calls.due(new ScoreForms(), BAD, "span", 0, 0, 1, 0);
        Calls.due(Check.of(TextEdges.times("a", 24), ""), BAD, "span", 0, 0, 25, 0);
        Document.promise(17, "NOT: j is no more than i");
        Calls.due(x, NOT, "span", 2, 0, 0, 0);
        Calls.due(x, NOT, "span", 2, 6, 6, 1);
        Calls.due(x, NOT, "span", 2, 3, 2, 0);
        Calls.due(x, NOT, "span", 2, 6, 0, 0);
        Calls.due(new ScoreForms(), NOT, "span", 3, 0, 0, 1);
    }

    private static void found() {
        Document.promise(18, "FOUND: BARS (what = 0), signs (1), how it is (2: 0 plain, 1 !, 2 %), bytes (3)");
        checkFound("a", 2, "a");
        checkFound("a1b2a1b2c", 2, "[a1b2]c");
        checkFound("a1ba1", 2, "a1!b$");
        checkFound("a1b2c3b2", 2, "a1%b2!c3$");
        checkFound("abcdefghijklmnopqrstuvwx", 3, "abcdefghijklmnopqrstuvwx");
        checkFound("a0b1c2d3e4f5g6h7i8j9k0l1", 3, "a0b1c2d3e4f5g6h7i8j9k0l1");
        checkFound(WIDEST, 2, WIDEST_FOUND);
        Document.promise(18, "an empty RUN: 0");
        for (String run : new String[] {"", "?", "ab?"}) {
            for (int what = 0; what <= 3; what++) {
                Calls.due(Check.of(run, "a"), 0, "found", what);
            }
        }
        Document.promise(18, "BAD");
        for (int what : new int[] {LEAST, -1, 4, MOST}) {
            Calls.due(Check.of("abab", ""), BAD, "found", what);
            Calls.due(new ScoreForms(), BAD, "found", what);
        }
    }

    private static void shown() {
        Document.promise(19, "Byte i (0 to 59) of FOUND");
        ScoreForms x = Check.of(WIDEST, "");
        for (int i = 0; i < WIDEST_FOUND.length(); i++) {
            Calls.due(x, WIDEST_FOUND.charAt(i), "shown", i);
        }
        Calls.due(Check.of("a", ""), 'a', "shown", 0);
        Calls.due(Check.of("a9", ""), '9', "shown", 1);
        Document.promise(19, "NONE");
        for (int i = WIDEST_FOUND.length(); i <= 59; i++) {
            Calls.due(x, NONE, "shown", i);
        }
        Calls.due(Check.of("a", ""), NONE, "shown", 1);
        Calls.due(new ScoreForms(), NONE, "shown", 0);
        Calls.due(new ScoreForms(), NONE, "shown", 59);
        Document.promise(19, "BAD");
        for (int i : new int[] {LEAST, -1, 60, MOST}) {
            Calls.due(x, BAD, "shown", i);
            Calls.due(new ScoreForms(), BAD, "shown", i);
        }
    }

    private static void mend() {
        Document.promise(20, "MEND: which (what = 0), BARS (1), signs (2) then");
        checkMend("a", 2, 0, 0, 0);
        checkMend("a1", 2, 0, 0, 0);
        checkMend("ab", 2, 0, 1, 0);
        checkMend("ababx", 2, 4, 2, 2);
        checkMend("abcdefghijkabcdefghijkz", 1, 22, 11, 2);
        ScoreForms x = Check.of("abab", "");
        int before = x.mend(1);
        Calls.due(x, 2, "depth", 0);
        Calls.due(x, before, "mend", 1);
        Calls.due(x, 5, "type", RUN, 'b');
        Calls.due(x, 0, "mend", 0);
        Document.promise(20, "NONE: THE RUN is empty");
        for (String run : new String[] {"", "?", "ab?"}) {
            for (int what = 0; what <= 2; what++) {
                Calls.due(Check.of(run, "ab"), NONE, "mend", what);
            }
        }
        Document.promise(20, "BAD");
        for (int what : new int[] {LEAST, -1, 3, MOST}) {
            Calls.due(Check.of("abab", ""), BAD, "mend", what);
            Calls.due(new ScoreForms(), BAD, "mend", what);
        }
    }
}
