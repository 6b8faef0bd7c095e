/** The words that the promises rest on: BARS, THE RUN, THE SCORE, its FAULT, and what it PLAYS. */
final class TermEdges {
    private static final int NONE = ScoreForms.NONE, BAD = ScoreForms.BAD, NOT = ScoreForms.NOT;
    private static final int RUN = Check.RUN, SCORE = Check.SCORE;
    private static final int STRANGE = 1, EMPTY = 2, DEEP = 3, STRAY = 4, OPEN = 5;

    private TermEdges() {
    }

    static void run() {
        bars();
        alikeBars();
        runFault();
        numbers();
        scores();
        parts();
        playing();
        faultPlace();
        everyByteEverywhere();
        reasons();
        repeatsWithin();
        faultyRunIsEmpty();
        faultyScoreIsEmpty();
    }

    private static boolean isLetter(int b) {
        return b >= 97 && b <= 122;
    }

    private static boolean isFigure(int b) {
        return b >= 48 && b <= 57;
    }

    private static void bars() {
        Document.heading(Document.WHAT_IT_IS, "A BAR is a letter a to z, perhaps with a figure 0 to 9 behind it");
        Document.heading(Document.TERMS, ", of BARS (0 on)");
        for (int b = 0; b <= 255; b++) {
            checkRun("" + (char) b, isLetter(b) ? NONE : 0, 1);
            checkRun("m" + (char) b, isLetter(b) || isFigure(b) ? NONE : 1, isFigure(b) ? 1 : 2);
            checkRun("m5" + (char) b, isLetter(b) ? NONE : 2, 2);
        }
        for (char letter = 'a'; letter <= 'z'; letter++) {
            for (char figure = '0'; figure <= '9'; figure++) {
                checkRun("" + letter + figure + letter, NONE, 2);
            }
        }
    }

    private static void checkRun(String run, int fault, int bars) {
        ScoreForms x = Check.of(run, "");
        Check.due("fault(0, 0) of " + run, x.fault(RUN, 0), fault);
        Check.due("count(1) of " + run, x.count(1), fault == NONE ? bars : 0);
    }

    private static void alikeBars() {
        Document.heading(Document.WHAT_IT_IS, "two are ALIKE, if they have the same bytes");
        String[] bars = {"a", "a0", "a1", "a9", "b", "b0", "b1", "z", "z9"};
        for (String one : bars) {
            for (String other : bars) {
                int like = one.equals(other) ? 1 : 0;
                ScoreForms x = Check.of(one + other, other + one);
                Check.due("bar(1) of " + one + other, x.bar(1), 1 - like);
                Check.due("alike(0, 1) of " + one + other, x.alike(0, 1), like);
                Check.due("same() of " + one + other, x.same(), like);
            }
        }
    }

    private static void runFault() {
        Document.heading(Document.TERMS, "its FAULT is the place of the first byte with which it cannot go on.");
        checkRun("", NONE, 0);
        checkRun("!", 0, 0);
        checkRun("a!b!", 1, 0);
        checkRun("a11", 2, 0);
        checkRun("a1b22", 4, 0);
        checkRun("abcdefghijklmnopqrstuvw9", NONE, 23);
        checkRun("abcdefghijklmnopqrstuvw?", 23, 0);
        checkRun("?bcdefghijklmnopqrstuvw?", 0, 0);
    }

    private static void numbers() {
        Document.heading(Document.TERMS, "BARS are numbered as they come first in THE RUN, 0 on (ALIKE ones have one NUMBER).");
        ScoreForms unlike = Check.of("xwvutsrqponmlkjihgfedcba", "");
        for (int i = 0; i < 24; i++) {
            Calls.due(unlike, i, "bar", i);
        }
        Calls.due(unlike, 24, "count", 2);
        ScoreForms some = Check.of("bab1aa1b1b", "");
        int[] numbers = {0, 1, 2, 1, 3, 2, 0};
        for (int i = 0; i < numbers.length; i++) {
            Calls.due(some, numbers[i], "bar", i);
        }
        Calls.due(some, 4, "count", 2);
        ScoreForms one = Check.of(TextEdges.times("z", 24), "");
        Calls.due(one, 0, "bar", 23);
        Calls.due(one, 1, "count", 2);
    }

    /** A score without a fault has place NONE and whatever reason. */
    private static void checkScore(String score, int place, int reason) {
        ScoreForms x = Check.of("", score);
        Check.due("fault(1, 0) of " + score, x.fault(SCORE, 0), place);
        Check.due("fault(1, 1) of " + score, x.fault(SCORE, 1), place == NONE ? NONE : reason);
    }

    private static void scores() {
        Document.heading(Document.TERMS, ": a PART; or a PART, !, a PART, $; or a PART, %, a PART, !, a PART, $.");
        for (String score : new String[] {"a", "a!b$", "a%b!c$", "[a]![b]$", "a1%b2!c3$", "[a]b%[c]d![e:f;g]h$"}) {
            checkScore(score, NONE, 0);
        }
        checkScore("a$", 1, STRAY);
        checkScore("a%b$", 3, STRAY);
        checkScore("a!b!c$", 3, STRAY);
        checkScore("a!b%c$", 3, STRAY);
        checkScore("a%b%c!d$", 3, STRAY);
        checkScore("a!b$$", 4, STRAY);
        checkScore("a!b$c", 4, STRAY);
        checkScore("[a!b$]", 2, STRAY);
        checkScore("[a%b!c$]", 2, STRAY);
    }

    private static void parts() {
        Document.heading(Document.TERMS,
            "A PART is one ITEM or more: a BAR; or [, a PART, ]; or [, a PART, :, a PART, ;, a PART, ].");
        for (String score : new String[] {"a", "ab", "a1", "[a]", "[a][b]", "a[b]c", "[a:b;c]", "[ab:cd;ef]", "[[a]:[b];[c]]",
            "[[[a]]]", "[[[a:b;c]:d;e]:f;g]", "[a][[b]][[[c]]]", TextEdges.times("a", 40), TextEdges.times("[a]", 13)}) {
            checkScore(score, NONE, 0);
        }
        checkScore("[a:b]", 4, STRAY);
        checkScore("[a;b]", 2, STRAY);
        checkScore("[a:b;c;d]", 6, STRAY);
        checkScore("[a:b:c]", 4, STRAY);
        checkScore("[]", 1, EMPTY);
        checkScore("[a:;b]", 3, EMPTY);
        checkScore("[a:b;]", 5, EMPTY);
    }

    private static void checkPlays(String score, String order) {
        Check.due("plays of " + score, Check.plays(Check.of("", score)), order);
    }

    private static void playing() {
        Document.heading(Document.TERMS, "It PLAYS thus: a BAR itself");
        checkPlays("a", "0");
        checkPlays("aa1b", "0 1 2");
        Document.heading(Document.TERMS, "[ PART ] that twice");
        checkPlays("[a]", "0 0");
        checkPlays("[[[a]b]c]", "0 0 1 0 0 1 2 0 0 1 0 0 1 2");
        Document.heading(Document.TERMS, "of [ with : and ; the first, the second, the first, the third");
        checkPlays("[a:b;c]", "0 1 0 2");
        checkPlays("[[a:b;c]:d;[e:f;g]]", "0 1 0 2 3 0 1 0 2 4 5 4 6");
        checkPlays("[[a:b;c]]", "0 1 0 2 0 1 0 2");
        Document.heading(Document.TERMS,
            "of ! and $ without % the first, the second, the first (once more from the beginning to the end told)");
        checkPlays("a!b$", "0 1 0");
        checkPlays("a[b:c;d]![e]f$", "0 1 2 1 3 4 4 5 0 1 2 1 3");
        Document.heading(Document.TERMS, "with % the first, the second, the third, the second.");
        checkPlays("a%b!c$", "0 1 2 1");
        checkPlays("[a]%[b:c;d]e![f]$", "0 0 1 2 1 3 4 5 5 1 2 1 3 4");
    }

    private static void faultPlace() {
        Document.heading(Document.TERMS, "Its FAULT is the place of the first byte with which it cannot go on");
        checkScore("A?", 0, STRANGE);
        checkScore("a]?", 1, STRAY);
        checkScore("[[[[?", 3, DEEP);
        checkScore(TextEdges.times("a", 39) + "]", 39, STRAY);
        Document.heading(Document.TERMS, "(its end, if it is not ended; an empty one is well), and a REASON:");
        checkScore("", NONE, 0);
        checkScore("[", 1, OPEN);
        checkScore("a!", 2, OPEN);
        checkScore("[" + TextEdges.times("a", 39), 40, OPEN);
        checkScore("[" + TextEdges.times("a", 38) + "]", NONE, 0);
    }

    // Which of ] : ; % ! $ each beginning can go on with; - stands for one behind which a PART ought to begin.
    private static final String[][] BEGINNINGS = {
        {"", "-"}, {"a", "%!"}, {"a1", "%!"}, {"[a]", "%!"}, {"[", "-"}, {"[a", ":]"}, {"[a2", ":]"}, {"[a:", "-"},
        {"[a:b", ";"}, {"[a:b;", "-"}, {"[a:b;c", "]"}, {"[[a]", ":]"}, {"[[a:b;c]", ":]"}, {"[a:[b]", ";"}, {"[[a:b", ";"},
        {"[[", "-"}, {"[[a", ":]"}, {"[[[", "-"}, {"[[[a", ":]"}, {"[[[a:", "-"}, {"[[[a:b", ";"}, {"[[[a:b;", "-"},
        {"[[[a:b;c", "]"}, {"[[[a]", ":]"}, {"a%", "-"}, {"a%b", "!"}, {"a%b!", "-"}, {"a%b!c", "$"}, {"a!", "-"},
        {"a!b", "$"}, {"a![", "-"}, {"a![b", ":]"}, {"a%[b]", "!"}, {"a%b![c]", "$"}, {"a!b$", ""}, {"a%b!c$", ""}};

    private static void everyByteEverywhere() {
        for (String[] beginning : BEGINNINGS) {
            for (int b = 0; b <= 255; b++) {
                checkByte(beginning[0], beginning[1], (char) b);
            }
        }
    }

    private static void checkByte(String begun, String signs, char b) {
        int reason = reasonAgainst(begun, signs, b);
        ScoreForms x = Check.of("", begun + b);
        int place = x.fault(SCORE, 0);
        if (reason == 0) {
            boolean wentOn = place == NONE || place == begun.length() + 1 && x.fault(SCORE, 1) == OPEN;
            Check.due(begun + " goes on with byte " + (int) b, wentOn ? 1 : 0, 1);
        } else {
            Check.due("fault(1, 0) of " + begun + " and byte " + (int) b, place, begun.length());
            Check.due("fault(1, 1) of " + begun + " and byte " + (int) b, x.fault(SCORE, 1), reason);
        }
    }

    private static int reasonAgainst(String begun, String signs, char b) {
        boolean ended = begun.endsWith("$");
        boolean isSign = "[]:;%!$".indexOf(b) >= 0;
        if (!isLetter(b) && !isFigure(b) && !isSign) {
            return STRANGE;
        }
        if (isLetter(b)) {
            return ended ? STRAY : 0;
        }
        if (isFigure(b)) {
            return !begun.isEmpty() && isLetter(begun.charAt(begun.length() - 1)) ? 0 : STRAY;
        }
        if (b == '[' && !ended) {
            int open = begun.replaceAll("[^\\[]", "").length() - begun.replaceAll("[^\\]]", "").length();
            return open == 3 ? DEEP : 0;
        }
        return signs.indexOf(b) >= 0 ? 0 : signs.equals("-") ? EMPTY : STRAY;
    }

    private static void reasons() {
        Document.heading(Document.TERMS, "1 STRANGE: that byte can never be");
        for (String begun : new String[] {"", "a", "[", "a!b$", "[[["}) {
            for (int b : new int[] {0, 9, 10, 32, '"', '#', '&', '/', '<', '@', 'A', 'Z', '\\', '^', '`', '{', 127, 128, 255}) {
                checkScore(begun + (char) b, begun.length(), STRANGE);
            }
        }
        Document.heading(Document.TERMS, "2 EMPTY: a sign where a PART ought to begin, but [");
        for (String begun : new String[] {"", "[", "[a:", "[a:b;", "a!", "a%", "a%b!"}) {
            for (char sign : "]:;%!$".toCharArray()) {
                checkScore(begun + sign, begun.length(), EMPTY);
            }
            checkScore(begun + '[', begun.length() + 1, OPEN);
            // A choice: a figure is no sign, so where a PART ought to begin it is STRAY.
            checkScore(begun + '1', begun.length(), STRAY);
        }
        Document.heading(Document.TERMS, "3 DEEP: a [ within three others");
        for (String begun : new String[] {"[[[", "[[[a", "[[[a:", "[[[a:b;", "[[a:[", "[[a][[", "a![[["}) {
            checkScore(begun + '[', begun.length(), DEEP);
        }
        checkScore("[[a][", 5, OPEN);
        checkScore("[[[a]][[b]]][[[c]]]", NONE, 0);
        Document.heading(Document.TERMS, "4 STRAY: any other byte where it is");
        checkScore("a]", 1, STRAY);
        checkScore("a11", 2, STRAY);
        checkScore("[a]1", 3, STRAY);
        checkScore("a!b$[", 4, STRAY);
        checkScore("a!b$1", 4, STRAY);
        Document.heading(Document.TERMS, "5 OPEN: its end");
        for (String score : new String[] {"[", "[a", "[a:", "[a:b", "[a:b;", "[a:b;c", "a!", "a!b", "a%", "a%b", "a%b!", "a%b!c"}) {
            checkScore(score, score.length(), OPEN);
        }
    }

    private static void repeatsWithin() {
        Document.heading(Document.TERMS,
            "and the [ within which it is (those that are not closed ahead of it), from the outermost one on.");
        checkWithin("!", "");
        checkWithin("[a]]", "");
        checkWithin("[]", "0");
        checkWithin("[a][", "3");
        checkWithin("[[a]b?", "0");
        checkWithin("[a[b[c[", "0 2 4");
        checkWithin("[[[a]]]a[[[", "8 9 10");
        checkWithin("[[[a]b]!", "0");
        checkWithin("[[[a]!", "0 1");
        checkWithin("[[[a]", "0 1");
    }

    private static void checkWithin(String score, String places) {
        ScoreForms x = Check.of("", score);
        StringBuilder got = new StringBuilder();
        for (int j = 0; j <= 2 && x.within(j) != NONE; j++) {
            got.append(x.within(j)).append(' ');
        }
        Check.due("within() of " + score, got.toString().trim(), places);
        Check.due("fault(1, 2) of " + score, x.fault(SCORE, 2), places.isEmpty() ? 0 : places.split(" ").length);
    }

    private static void faultyRunIsEmpty() {
        Document.heading(Document.TERMS, "With a FAULT a text is as if it was empty.");
        ScoreForms x = Check.of("aa?", "");
        x.sheet(0, 0, 9);
        for (int what : new int[] {1, 2, 6, 7}) {
            Calls.due(x, 0, "count", what);
        }
        Calls.due(x, BAD, "bar", 0);
        Calls.due(x, 0, "alike", 0, 0);
        Calls.due(x, BAD, "again", 0, 1);
        Calls.due(x, NOT, "again", 0, 0);
        Calls.due(x, BAD, "span", 0, 0, 1, 0);
        Calls.due(x, NOT, "span", 0, 0, 0, 0);
        for (int what = 0; what <= 3; what++) {
            Calls.due(x, 0, "found", what);
        }
        Calls.due(x, NONE, "shown", 0);
        for (int what = 0; what <= 2; what++) {
            Calls.due(x, NONE, "mend", what);
        }
        Calls.due(x, 0, "write", 0);
        Calls.due(x, 1, "same");
        Calls.due(x, NONE, "first");
        Calls.due(x, 2, "undo", RUN);
        Calls.due(x, 2, "count", 1);
        Calls.due(x, 0, "same");
        Calls.due(x, 1, "found", 0);
    }

    private static void faultyScoreIsEmpty() {
        ScoreForms x = Check.of("a", "[a][");
        Calls.due(x, 0, "plays", NONE);
        Calls.due(x, NONE, "plays", 0);
        Calls.due(x, BAD, "often", 0);
        for (int what = 0; what <= 2; what++) {
            Calls.due(x, 0, "score", what);
        }
        Calls.due(x, 0, "count", 4);
        Calls.due(x, 0, "count", 5);
        Calls.due(x, 0, "same");
        Calls.due(x, 0, "first");
        Calls.due(x, 0, "undo", RUN);
        Calls.due(x, 1, "same");
        Calls.due(x, 3, "undo", SCORE);
        Calls.due(x, 2, "plays", NONE);
        Calls.due(x, 2, "score", 1);
    }
}
