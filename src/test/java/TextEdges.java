/** The edges of texts: promises 1 to 8, and the words on BARS, THE RUN and THE SCORE that they rest on. */
final class TextEdges {
    private static final int NONE = ScoreForms.NONE, BAD = ScoreForms.BAD, NOT = ScoreForms.NOT, FULL = ScoreForms.FULL;
    private static final int RUN = Check.RUN, SCORE = Check.SCORE;
    private static final int LEAST = Integer.MIN_VALUE, MOST = Integer.MAX_VALUE;
    private static final int[] NO_TEXT = {LEAST, -2, -1, 2, 3, MOST};
    private static final int[] NO_BYTE = {LEAST, -256, -128, -1, 256, 257, 65536 + 'a', MOST};

    private TextEdges() {
    }

    static void run() {
        newObject();
        sizes();
        type();
        wipe();
        undo();
        read();
        readStops();
        readRefused();
        depth();
        fault();
        within();
    }

    static String times(String bytes, int times) {
        return bytes.repeat(times);
    }

    private static void newObject() {
        ScoreForms x = new ScoreForms();
        Document.promise(1, "No texts");
        Calls.due(x, 0, "count", 0);
        Calls.due(x, NOT, "undo", RUN);
        Calls.due(x, NOT, "undo", SCORE);
        Calls.due(x, 0, "wipe", RUN);
        Calls.due(x, 0, "wipe", SCORE);
        Document.promise(1, "DEPTH 2");
        Calls.due(x, 2, "count", 3);
        Calls.due(x, 2, "depth", 0);
        Document.promise(1, "all SHEETS are LOST");
        Calls.due(x, 0, "count", 8);
        for (int s = 0; s <= 3; s++) {
            Calls.due(x, -11, "lose", s);
        }
    }

    private static void sizes() {
        ScoreForms x = Check.of(times("a", 24), times("b", 40));
        Document.heading(Document.TERMS, "THE RUN is a text of up to 24 bytes (text 0)");
        Calls.due(x, 24, "count", 1);
        Calls.due(x, FULL, "type", RUN, 'a');
        Document.heading(Document.TERMS, "THE SCORE is a text of up to 40 bytes (text 1)");
        Calls.due(x, 40, "count", 4);
        Calls.due(x, FULL, "type", SCORE, 'a');
    }

    private static void type() {
        Document.promise(2, "A byte (0 to 255)");
        for (int b = 0; b <= 255; b++) {
            Calls.due(new ScoreForms(), 1, "type", RUN, b);
            Calls.due(new ScoreForms(), 1, "type", SCORE, b);
        }
        Document.promise(2, "comes behind a text (0, 1)");
        ScoreForms x = Check.of("ab", "cd");
        Calls.due(x, 3, "type", RUN, 'a');
        Calls.due(x, 0, "bar", 2);
        Calls.due(x, 1, "bar", 1);
        Calls.due(x, 2, "plays", NONE);
        Calls.due(x, 3, "type", SCORE, 'a');
        Calls.due(x, 3, "plays", NONE);
        Calls.due(x, 3, "count", 1);
        Document.promise(2, "how many");
        for (int size = 1; size <= 21; size++) {
            Calls.due(x, 3 + size, "type", RUN, 'z');
        }
        for (int size = 1; size <= 37; size++) {
            Calls.due(x, 3 + size, "type", SCORE, '?');
        }
        typeRefused(x);
    }

    private static void typeRefused(ScoreForms full) {
        Document.promise(2, "BAD");
        for (int text : NO_TEXT) {
            Calls.due(new ScoreForms(), BAD, "type", text, 'a');
            Calls.due(full, BAD, "type", text, 'a');
        }
        for (int b : NO_BYTE) {
            Calls.due(new ScoreForms(), BAD, "type", RUN, b);
            Calls.due(new ScoreForms(), BAD, "type", SCORE, b);
        }
        Document.promise(2, "FULL");
        Calls.due(full, FULL, "type", RUN, 0);
        Calls.due(full, FULL, "type", SCORE, 255);
        Calls.due(full, 23, "undo", RUN);
        Calls.due(full, 24, "type", RUN, 'a');
        Calls.due(full, 39, "undo", SCORE);
        Calls.due(full, 40, "type", SCORE, 'a');
        Calls.due(full, FULL, "type", RUN, 'a');
        Calls.due(full, FULL, "type", SCORE, 'a');
    }

    private static void wipe() {
        Document.promise(3, "A text is empty");
        ScoreForms x = Check.of("abab", "[ab]");
        x.wipe(RUN);
        Calls.due(x, 0, "count", 1);
        Calls.due(x, NOT, "undo", RUN);
        Calls.due(x, 4, "plays", NONE);
        x.wipe(SCORE);
        Calls.due(x, 0, "plays", NONE);
        Calls.due(x, NOT, "undo", SCORE);
        Calls.due(x, 1, "type", RUN, 'a');
        Calls.due(x, 1, "type", SCORE, 'a');
        Document.promise(3, "how many bytes it had");
        Calls.due(new ScoreForms(), 0, "wipe", RUN);
        Calls.due(new ScoreForms(), 0, "wipe", SCORE);
        ScoreForms full = Check.of(times("a1", 12), times("?", 40));
        Calls.due(full, 24, "wipe", RUN);
        Calls.due(full, 40, "wipe", SCORE);
        Calls.due(full, 0, "wipe", RUN);
        Calls.due(full, 0, "wipe", SCORE);
        Document.promise(3, "BAD");
        for (int text : NO_TEXT) {
            Calls.due(x, BAD, "wipe", text);
        }
    }

    private static void undo() {
        Document.promise(4, "The last byte of a text is undone");
        ScoreForms x = Check.of("ab1", "[a]]");
        x.undo(RUN);
        Calls.due(x, 1, "bar", 1);
        Calls.due(x, 'b', "shown", 1);
        Calls.due(x, NONE, "shown", 2);
        Calls.due(x, 3, "fault", SCORE, 0);
        x.undo(SCORE);
        Calls.due(x, NONE, "fault", SCORE, 0);
        Document.promise(4, "how many are left");
        ScoreForms full = Check.of(times("a", 24), times("?", 40));
        for (int left = 23; left >= 0; left--) {
            Calls.due(full, left, "undo", RUN);
        }
        for (int left = 39; left >= 0; left--) {
            Calls.due(full, left, "undo", SCORE);
        }
        Document.promise(4, "NOT: it is empty");
        Calls.due(full, NOT, "undo", RUN);
        Calls.due(full, NOT, "undo", SCORE);
        Calls.due(new ScoreForms(), NOT, "undo", RUN);
        Calls.due(new ScoreForms(), NOT, "undo", SCORE);
        Document.promise(4, "BAD");
        for (int text : NO_TEXT) {
            Calls.due(x, BAD, "undo", text);
            Calls.due(new ScoreForms(), BAD, "undo", text);
        }
    }

    /** A sheet of a form with these items. */
    static void lay(ScoreForms x, int s, int form, int... items) {
        Calls.due(x, items.length, "sheet", s, form, items.length);
        for (int i = 0; i < items.length; i++) {
            Calls.due(x, 1, "lay", s, form, i, items[i]);
        }
    }

    private static void read() {
        Document.promise(5, "Bytes from a SHEET come behind a text");
        for (int form = 0; form <= 2; form++) {
            for (int s = 0; s <= 3; s++) {
                ScoreForms x = Check.of("b", "[c");
                lay(x, s, form, 'a', 'b', ']');
                Calls.due(x, 3, "read", RUN, s);
                Calls.due(x, 3, "fault", RUN, 0);
                Calls.due(x, 3, "undo", RUN);
                Calls.due(x, 0, "bar", 2);
                Calls.due(x, 3, "read", SCORE, s);
                Calls.due(x, 6, "plays", NONE);
                Calls.due(x, ']', "get", s, form, 2);
                Calls.due(x, 3, "lose", s);
            }
        }
        Document.promise(5, "how many");
        ScoreForms x = new ScoreForms();
        lay(x, 0, 0);
        Calls.due(x, 0, "read", RUN, 0);
        lay(x, 0, 0, 'a');
        Calls.due(x, 1, "read", RUN, 0);
        Calls.due(x, 1, "read", RUN, 0);
        Calls.due(x, 2, "count", 1);
    }

    private static void readStops() {
        Document.promise(5, "its items, as many as may");
        ScoreForms x = new ScoreForms();
        x.sheet(0, 0, 60);
        Calls.due(x, 24, "read", RUN, 0);
        Calls.due(x, 0, "read", RUN, 0);
        Calls.due(x, 23, "undo", RUN);
        Calls.due(x, 1, "read", RUN, 0);
        Calls.due(x, 40, "read", SCORE, 0);
        Calls.due(x, 0, "read", SCORE, 0);
        Calls.due(x, 64, "count", 0);
        for (int form = 1; form <= 2; form++) {
            ScoreForms y = new ScoreForms();
            lay(y, 1, form, 0, 255, 256, 'a');
            Calls.due(y, 2, "read", RUN, 1);
            lay(y, 1, form, 'a', -1, 'b');
            Calls.due(y, 1, "read", RUN, 1);
            lay(y, 1, form, form == 1 ? -32768 : LEAST, 'b');
            Calls.due(y, 0, "read", RUN, 1);
            lay(y, 1, form, form == 1 ? 32767 : MOST, 'b');
            Calls.due(y, 0, "read", RUN, 1);
            Calls.due(y, 3, "count", 0);
        }
        // A choice: items of FORM 0 are Java's bytes, and one below 0 is no byte of a text.
        ScoreForms y = new ScoreForms();
        lay(y, 1, 0, 127, 128, 'a');
        Calls.due(y, 1, "read", RUN, 1);
    }

    private static void readRefused() {
        ScoreForms x = new ScoreForms();
        x.sheet(0, 0, 1);
        Document.promise(5, "BAD: text, SHEET");
        for (int text : NO_TEXT) {
            Calls.due(x, BAD, "read", text, 0);
            Calls.due(x, BAD, "read", text, 1);
        }
        for (int s : SheetEdges.NO_SHEET) {
            Calls.due(x, BAD, "read", RUN, s);
            Calls.due(x, BAD, "read", SCORE, s);
        }
        Calls.due(x, 0, "count", 8);
        Document.promise(5, "NULL");
        Calls.due(x, -11, "read", RUN, 1);
        Calls.due(x, 1, "count", 8);
        Calls.due(x, -11, "read", SCORE, 3);
        Calls.due(x, 0, "count", 0);
    }

    private static void depth() {
        Document.promise(6, "DEPTH (0 to 3)");
        int[] bars = {9, 5, 3, 2};
        ScoreForms x = Check.of(times("a", 16), "");
        for (int v = 0; v <= 3; v++) {
            x.depth(v);
            Calls.due(x, v, "count", 3);
            Calls.due(x, bars[v], "found", 0);
        }
        Document.promise(6, "what it was");
        Calls.due(x, 3, "depth", 0);
        Calls.due(x, 0, "depth", 1);
        Calls.due(x, 1, "depth", 1);
        Calls.due(x, 1, "depth", 2);
        Document.promise(6, "BAD");
        for (int v : new int[] {LEAST, -1, 4, MOST}) {
            Calls.due(x, BAD, "depth", v);
            Calls.due(x, 2, "count", 3);
        }
    }

    private static void fault() {
        ScoreForms x = Check.of("ab!", "[a[b!");
        Document.promise(7, "The FAULT of a text: the place (what = 0)");
        Calls.due(x, 2, "fault", RUN, 0);
        Calls.due(x, 4, "fault", SCORE, 0);
        Document.promise(7, "of THE SCORE the REASON (1; of THE RUN 0)");
        Calls.due(x, 4, "fault", SCORE, 1);
        Calls.due(x, 0, "fault", RUN, 1);
        Document.promise(7, "within how many [ (2; of THE RUN 0)");
        Calls.due(x, 2, "fault", SCORE, 2);
        Calls.due(x, 0, "fault", RUN, 2);
        Calls.due(Check.of("", "!"), 0, "fault", SCORE, 2);
        Document.promise(7, "NONE: there is none");
        ScoreForms y = Check.of("ab", "[a]");
        for (int what = 0; what <= 2; what++) {
            for (int text = RUN; text <= SCORE; text++) {
                Calls.due(y, NONE, "fault", text, what);
                Calls.due(new ScoreForms(), NONE, "fault", text, what);
            }
        }
        Document.promise(7, "BAD");
        for (int text : NO_TEXT) {
            Calls.due(x, BAD, "fault", text, 0);
        }
        for (int what : new int[] {LEAST, -1, 3, MOST}) {
            Calls.due(x, BAD, "fault", RUN, what);
            Calls.due(x, BAD, "fault", SCORE, what);
            Calls.due(y, BAD, "fault", SCORE, what);
        }
    }

    private static void within() {
        Document.promise(8, "The place of the j-th [ (0 to 2, from the outermost one on) within which the FAULT of THE SCORE is");
        ScoreForms x = Check.of("", "[a]b[c[[d][e!");
        Calls.due(x, 4, "within", 0);
        Calls.due(x, 6, "within", 1);
        Calls.due(x, 10, "within", 2);
        ScoreForms far = Check.of("", times("a", 37) + "[[[");
        Calls.due(far, 37, "within", 0);
        Calls.due(far, 38, "within", 1);
        Calls.due(far, 39, "within", 2);
        Calls.due(far, 40, "fault", SCORE, 0);
        Document.promise(8, "NONE");
        ScoreForms one = Check.of("?", "a[b!");
        Calls.due(one, 1, "within", 0);
        Calls.due(one, NONE, "within", 1);
        Calls.due(one, NONE, "within", 2);
        for (String score : new String[] {"", "[[[a]]]", "[a]]", "a!"}) {
            for (int j = 0; j <= 2; j++) {
                Calls.due(Check.of("[", score), NONE, "within", j);
            }
        }
        Document.promise(8, "BAD");
        for (int j : new int[] {LEAST, -1, 3, MOST}) {
            Calls.due(x, BAD, "within", j);
            Calls.due(new ScoreForms(), BAD, "within", j);
        }
    }
}
