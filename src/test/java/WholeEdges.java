import java.math.BigInteger;
import java.util.ArrayList;
import java.util.Collections;
import java.util.List;

/** The edges of count() and digest(): promises 27 and 28; and an object's 512 calls. */
final class WholeEdges {
    private static final int BAD = ScoreForms.BAD, RUN = Check.RUN, SCORE = Check.SCORE;
    private static final int LEAST = Integer.MIN_VALUE, MOST = Integer.MAX_VALUE;

    private WholeEdges() {
    }

    static void run() {
        counts();
        findingCount();
        countBad();
        digestOfNewObject();
        digestOfParts();
        digestOfManySpans();
        digestLeavesOut();
        changesAreSeen();
        scoresOneByOne();
        calls();
    }

    private static void checkCounts(ScoreForms x, int... due) {
        for (int what = 0; what < due.length; what++) {
            Calls.due(x, due[what], "count", what);
        }
    }

    private static void counts() {
        Document.promise(27, "0 bytes of both texts, 1 BARS of THE RUN, 2 unlike ones of these, 3 DEPTH, "
            + "4 BARS that THE SCORE PLAYS, 5 printed ones, 6 BARS of FOUND, 7 signs of FOUND");
        checkCounts(new ScoreForms(), 0, 0, 0, 2, 0, 0, 0, 0, 0);
        checkCounts(Check.of("a1ba1b", "[a1b]c"), 12, 4, 2, 2, 5, 3, 2, 2, 0);
        checkCounts(Check.of("", "a!b$"), 4, 0, 0, 2, 3, 2, 0, 0, 0);
        checkCounts(Check.of(TextEdges.times("a", 24), TextEdges.times("b", 40)), 64, 24, 1, 2, 40, 40, 4, 10, 0);
        checkCounts(Check.of("abcdefghijklmnopqrstuvwx", ""), 24, 24, 24, 2, 0, 0, 24, 0, 0);
        // With a FAULT a text is as if it was empty, but it has its bytes.
        checkCounts(Check.of("aa?", "[a]?"), 7, 0, 0, 2, 0, 0, 0, 0, 0);
        ScoreForms x = Check.of("aaaa", "");
        x.depth(3);
        checkCounts(x, 4, 4, 1, 3, 0, 0, 1, 4, 0);
        x.depth(0);
        checkCounts(x, 4, 4, 1, 0, 0, 0, 3, 2, 0);
    }

    private static void findingCount() {
        Document.promise(27, "8 the number of the latest FINDING (0 before any)");
        ScoreForms x = Check.of("aa", "[a]");
        Calls.due(x, 0, "count", 8);
        Calls.due(x, BAD, "lose", 4);
        Calls.due(x, BAD, "sheet", 0, 0, 61);
        Calls.due(x, 0, "count", 8);
        Calls.due(x, -15, "sheet", 0, 0, -1);
        Calls.due(x, 5, "count", 8);
        Calls.due(x, -11, "lose", 0);
        Calls.due(x, 1, "count", 8);
        // What goes well, or is BAD, leaves the latest one.
        Calls.due(x, 3, "sheet", 0, 0, 3);
        Calls.due(x, BAD, "write", -1);
        Calls.due(x, 2, "wipe", RUN);
        Calls.due(x, ScoreForms.NOT, "undo", RUN);
        Calls.due(x, 1, "count", 8);
    }

    private static void countBad() {
        Document.promise(27, "BAD");
        for (int what : new int[] {LEAST, -1, 9, MOST}) {
            Calls.due(Check.of("aa", "[a]"), BAD, "count", what);
            Calls.due(new ScoreForms(), BAD, "count", what);
        }
    }

    /** By whole numbers without an end, of which a long keeps the lowest bits. */
    private static long digestOf(List<Integer> row) {
        BigInteger h = BigInteger.valueOf(17);
        for (int one : row) {
            h = h.multiply(BigInteger.valueOf(31)).add(BigInteger.valueOf(one));
        }
        return h.longValue();
    }

    private static void digestOfNewObject() {
        Document.promise(28, "h is 17; h becomes 31 h and each of: count() 0 to 7; fault(0, 0), fault(1, 0 to 2), within() 0 to 2");
        Document.promise(28, "as longs that wrap");
        List<Integer> row = new ArrayList<>(List.of(0, 0, 0, 2, 0, 0, 0, 0, -1, -1, -1, -1, -1, -1, -1));
        row.add(0);
        row.addAll(Collections.nCopies(41, -1));
        row.addAll(List.of(0, 0, 0, 1, -1, 0, 0, 0, 0));
        row.addAll(Collections.nCopies(60, -1));
        row.addAll(List.of(-1, -1, -1));
        Check.due("digest() of a new object", new ScoreForms().digest(), digestOf(row));
    }

    private static void digestOfParts() {
        Document.promise(28, "of BARS of THE RUN bar(), alike(it, 0), again(0, it), span(1, 0, it, 0), "
            + "span(2, it, number of BARS, 1), span(3, 0, it, 1)");
        // aab by hand: its counts and faults, each BAR, the playing of [a], its score, what is found, MEND.
        List<Integer> row = new ArrayList<>(List.of(6, 3, 2, 2, 2, 1, 2, 2, -1, -1, -1, -1, -1, -1, -1));
        row.addAll(List.of(0, 3, -3, -3, 2, -3));
        row.addAll(List.of(0, 1, 2, 1, 0, 0));
        row.addAll(List.of(1, 0, 1, 1, 0, 2));
        Document.promise(28, "of -1 to 40 plays(); of printed BARS often(); score() 0 to 2, same(), first()");
        row.addAll(List.of(2, 0, 0));
        row.addAll(Collections.nCopies(39, -1));
        row.addAll(List.of(2, 1, 2, 1, 0, 2));
        Document.promise(28, "found() 0 to 3, of 0 to 59 shown(); mend() 0 to 2");
        row.addAll(List.of(2, 2, 0, 4, (int) '[', (int) 'a', (int) ']', (int) 'b'));
        row.addAll(Collections.nCopies(56, -1));
        row.addAll(List.of(2, 1, 2));
        Check.due("digest() of aab and [a]", Check.of("aab", "[a]").digest(), digestOf(row));
        digestWithFaults();
    }

    private static void digestWithFaults() {
        Document.promise(28, "fault(0, 0), fault(1, 0 to 2), within() 0 to 2");
        // An OPEN score within two [, and a run with a fault.
        List<Integer> row = new ArrayList<>(List.of(6, 0, 0, 0, 0, 0, 0, 0, 1, 4, 5, 2, 0, 2, -1));
        row.add(0);
        row.addAll(Collections.nCopies(41, -1));
        row.addAll(List.of(0, 0, 0, 1, -1, 0, 0, 0, 0));
        row.addAll(Collections.nCopies(60, -1));
        row.addAll(List.of(-1, -1, -1));
        ScoreForms x = Check.of("a!", "[a[b");
        x.depth(0);
        Check.due("digest() of a! and [a[b", x.digest(), digestOf(row));
    }

    private static void digestOfManySpans() {
        Document.promise(28, "span(1, 0, it, 0), span(2, it, number of BARS, 1), span(3, 0, it, 1)");
        ScoreForms x = Check.of(TextEdges.times("a", 16), "");
        List<Integer> row = new ArrayList<>(List.of(16, 16, 1, 2, 0, 0, 3, 10, -1, -1, -1, -1, -1, -1, -1));
        for (int it = 0; it < 16; it++) {
            row.addAll(List.of(0, 16 - it, it == 0 ? -3 : 16 / it));
            row.addAll(List.of(x.span(1, 0, it, 0), x.span(2, it, 16, 1), x.span(3, 0, it, 1)));
        }
        row.add(0);
        row.addAll(Collections.nCopies(41, -1));
        row.addAll(List.of(0, 0, 0, 0, 0, x.found(0), x.found(1), x.found(2), x.found(3)));
        for (int i = 0; i < 60; i++) {
            row.add(x.shown(i));
        }
        row.addAll(List.of(x.mend(0), x.mend(1), x.mend(2)));
        Check.due("digest() of 16 times a", x.digest(), digestOf(row));
    }

    private static void digestLeavesOut() {
        ScoreForms x = Check.of("abab", "[ab]");
        long was = x.digest();
        Check.due("digest() again", x.digest(), was);
        Calls.due(x, -11, "lose", 0);
        Calls.due(x, 5, "sheet", 0, 0, 5);
        Calls.due(x, 4, "write", 0);
        Check.due("digest() behind a finding and a sheet", x.digest(), was);
        Calls.due(x, 1, "count", 8);
    }

    /** Whatever was asked before, what is asked now goes by the texts and the DEPTH as they are now. */
    private static void checkNow(ScoreForms x, String run, String score, int depth) {
        ScoreForms fresh = Check.of(run, score);
        fresh.depth(depth);
        Check.due("digest() of " + run + " and " + score + " at " + depth, x.digest(), fresh.digest());
    }

    private static void changesAreSeen() {
        ScoreForms x = new ScoreForms();
        Document.promise(2, "comes behind a text (0, 1)");
        for (int size = 1; size <= 6; size++) {
            x.type(RUN, "aabaac".charAt(size - 1));
            x.type(SCORE, "[[a]b]".charAt(size - 1));
            checkNow(x, "aabaac".substring(0, size), "[[a]b]".substring(0, size), 2);
        }
        Document.promise(4, "The last byte of a text is undone");
        x.undo(RUN);
        checkNow(x, "aabaa", "[[a]b]", 2);
        x.undo(SCORE);
        checkNow(x, "aabaa", "[[a]b", 2);
        Document.promise(5, "Bytes from a SHEET come behind a text");
        TextEdges.lay(x, 0, 0, 'b', ']');
        x.read(RUN, 0);
        checkNow(x, "aabaab]", "[[a]b", 2);
        x.read(SCORE, 0);
        checkNow(x, "aabaab]", "[[a]bb]", 2);
        x.undo(RUN);
        checkNow(x, "aabaab", "[[a]bb]", 2);
        Document.promise(6, "DEPTH (0 to 3)");
        for (int depth : new int[] {3, 0, 1, 2, 1}) {
            x.depth(depth);
            checkNow(x, "aabaab", "[[a]bb]", depth);
        }
        Document.promise(3, "A text is empty");
        x.wipe(RUN);
        checkNow(x, "", "[[a]bb]", 1);
        x.wipe(SCORE);
        checkNow(x, "", "", 1);
    }

    private static void scoresOneByOne() {
        Document.promise(3, "A text is empty");
        // What one leaves behind, the next must not find: an open [, a jump, a letter that waits for its figure.
        String[] scores = {"a%b!c$", "a!b$", "a%b!c", "ab", "1", "[a:b", "[c]", "[[[[", "x[b]", "[[[a", "x[b:c;d]", "a!b$?",
            "a1", "1", "!", "[d]", "a!", "b"};
        ScoreForms x = new ScoreForms();
        for (String score : scores) {
            Check.tell(x, SCORE, score);
            checkNow(x, "", score, 2);
            Check.tell(x, RUN, score);
            checkNow(x, score, score, 2);
            Check.tell(x, RUN, "");
        }
    }

    private static void calls() {
        Document.heading(Document.WHAT_IT_IS,
            "An object is used for at most 512 calls after it has been made; what later calls answer is free.");
        ScoreForms cheap = new ScoreForms();
        for (int call = 1; call <= 512; call++) {
            if (call % 2 == 1) {
                Calls.due(cheap, 1, "type", call % 4 / 2, 'a');
            } else {
                Calls.due(cheap, 0, "undo", (call - 1) % 4 / 2);
            }
        }
        ScoreForms dear = Check.of("aabaabaacaabaabaacaabaab", "[[[abcdefghijklmnopqrstuvwxyzabcde]]]!f$");
        long due = dear.digest();
        for (int call = 24 + 40 + 2 + 1; call + 3 <= 512; call += 3) {
            Calls.due(dear, 23, "undo", RUN);
            Calls.due(dear, 24, "type", RUN, 'b');
            Check.due("digest() behind " + call + " calls", dear.digest(), due);
        }
        Calls.due(dear, 40, "wipe", SCORE);
    }
}
