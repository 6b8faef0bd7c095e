/** The edges of sheets: promises 21 to 26, and the words on SHEETS and FINDINGS. */
final class SheetEdges {
    static final int[] NO_SHEET = {Integer.MIN_VALUE, -2, -1, 4, 5, Integer.MAX_VALUE};
    private static final int[] NO_FORM = {Integer.MIN_VALUE, -1, 3, Integer.MAX_VALUE};
    private static final int LEAST = Integer.MIN_VALUE, MOST = Integer.MAX_VALUE;
    private static final int BAD = ScoreForms.BAD, RUN = Check.RUN;
    private static final int NULL = -11, INDEX = -12, CAST = -13, STORE = -14, SIZE = -15;

    private SheetEdges() {
    }

    static void run() {
        sheetWords();
        findingNumbers();
        sheet();
        sheetRefused();
        lose();
        lay();
        layRefused();
        get();
        getRefused();
        copy();
        copyRefused();
        copyIndex();
        write();
        writeRefused();
    }

    private static void checkItems(ScoreForms x, int s, int form, int... items) {
        for (int i = 0; i < items.length; i++) {
            Calls.due(x, items[i], "get", s, form, i);
        }
        Calls.due(x, LEAST, "get", s, form, items.length);
        Calls.due(x, 2, "count", 8);
    }

    private static void sheetWords() {
        Document.heading(Document.TERMS, "SHEETS 0 .. 3 are LOST (at first) or a row of a FORM: 0 bytes, 1 shorts, 2 ints");
        ScoreForms x = new ScoreForms();
        for (int s = 0; s <= 3; s++) {
            Calls.due(x, NULL, "lay", s, 0, 0, 0);
            for (int form = 0; form <= 2; form++) {
                Calls.due(x, 1, "sheet", s, form, 1);
                for (int other = 0; other <= 2; other++) {
                    Calls.due(x, other == form ? 1 : CAST, "lay", s, other, 0, 40000);
                }
                Calls.due(x, new int[] {64, -25536, 40000}[form], "get", s, form, 0);
            }
        }
        Document.heading(Document.TERMS, "of 0 to 60 items (0 at first).");
        for (int n : new int[] {0, 1, 59, 60}) {
            Calls.due(x, n, "sheet", 1, 1, n);
            for (int i = 0; i < n; i++) {
                Calls.due(x, 0, "get", 1, 1, i);
            }
            Calls.due(x, INDEX, "lay", 1, 1, n, 7);
        }
    }

    private static void findingNumbers() {
        Document.heading(Document.TERMS, "FINDINGS (answers -10 less the number; they change nothing but count() 8)");
        ScoreForms x = new ScoreForms();
        TextEdges.lay(x, 0, 0, 7);
        TextEdges.lay(x, 1, 1, 8);
        Calls.due(x, 0, "count", 8);
        checkFinding(x, 1, "1 NULL: the SHEET is LOST", "lose", 2);
        checkFinding(x, 2, "2 INDEX: there is no such item", "lay", 0, 0, 1, 9);
        checkFinding(x, 3, "3 CAST: it has another FORM", "lay", 0, 1, 0, 9);
        checkFinding(x, 4, "4 STORE: unlike FORMS", "copy", 0, 0, 1, 0, 1);
        checkFinding(x, 5, "5 SIZE: below 0.", "sheet", 0, 0, -1);
        checkItems(x, 0, 0, 7);
        checkItems(x, 1, 1, 8);
        Calls.due(x, NULL, "lose", 2);
    }

    private static void checkFinding(ScoreForms x, int number, String words, String call, int... a) {
        Document.heading(Document.TERMS, words);
        long was = x.digest();
        Calls.due(x, -10 - number, call, a);
        Calls.due(x, number, "count", 8);
        Check.due("digest() behind " + words, x.digest(), was);
    }

    private static void sheet() {
        Document.promise(21, "A SHEET is a new row of a FORM with n items: n");
        ScoreForms x = new ScoreForms();
        Calls.due(x, 0, "sheet", 0, 0, 0);
        Calls.due(x, 1, "sheet", 1, 1, 1);
        Calls.due(x, 60, "sheet", 3, 2, 60);
        Calls.due(x, INDEX, "lay", 0, 0, 0, 1);
        Calls.due(x, 1, "lay", 3, 2, 59, -5);
        Calls.due(x, 1, "lay", 3, 2, 0, -6);
        // A new row has nothing of the old one: neither items nor FORM nor size.
        Calls.due(x, 60, "sheet", 3, 2, 60);
        Calls.due(x, 0, "get", 3, 2, 59);
        Calls.due(x, 0, "get", 3, 2, 0);
        Calls.due(x, 1, "lay", 3, 2, 5, 9);
        Calls.due(x, 3, "sheet", 3, 0, 3);
        Calls.due(x, CAST, "lay", 3, 2, 0, 1);
        Calls.due(x, INDEX, "lay", 3, 0, 3, 1);
        Calls.due(x, 6, "sheet", 3, 0, 6);
        Calls.due(x, 0, "get", 3, 0, 5);
        Calls.due(x, 6, "lose", 3);
        Calls.due(x, 2, "sheet", 3, 1, 2);
        Calls.due(x, 2, "lose", 3);
    }

    private static void sheetRefused() {
        ScoreForms x = new ScoreForms();
        TextEdges.lay(x, 0, 0, 5);
        Document.promise(21, "BAD: SHEET, FORM, above 60");
        for (int s : NO_SHEET) {
            Calls.due(x, BAD, "sheet", s, 0, 1);
            Calls.due(x, BAD, "sheet", s, 0, -1);
        }
        for (int form : NO_FORM) {
            Calls.due(x, BAD, "sheet", 0, form, 1);
            Calls.due(x, BAD, "sheet", 0, form, -1);
        }
        Calls.due(x, BAD, "sheet", 0, 0, 61);
        Calls.due(x, BAD, "sheet", 1, 2, MOST);
        Calls.due(x, 0, "count", 8);
        Document.promise(21, "SIZE");
        Calls.due(x, SIZE, "sheet", 0, 0, -1);
        Calls.due(x, SIZE, "sheet", 1, 2, LEAST);
        Calls.due(x, 5, "count", 8);
        checkItems(x, 0, 0, 5);
        Calls.due(x, NULL, "lose", 1);
    }

    private static void lose() {
        ScoreForms x = new ScoreForms();
        Document.promise(22, "It is LOST: how many items it had");
        int[] sizes = {0, 1, 59, 60};
        for (int s = 0; s <= 3; s++) {
            x.sheet(s, s % 3, sizes[s]);
        }
        for (int s = 0; s <= 3; s++) {
            Calls.due(x, sizes[s], "lose", s);
            Calls.due(x, NULL, "lay", s, s % 3, 0, 0);
        }
        Document.promise(22, "NULL");
        for (int s = 0; s <= 3; s++) {
            Calls.due(x, NULL, "lose", s);
            Calls.due(new ScoreForms(), NULL, "lose", s);
        }
        Calls.due(x, 1, "count", 8);
        Document.promise(22, "BAD");
        for (int s : NO_SHEET) {
            Calls.due(x, BAD, "lose", s);
        }
        ScoreForms y = new ScoreForms();
        Calls.due(y, BAD, "lose", 4);
        Calls.due(y, 0, "count", 8);
    }

    private static final int[] VALUES = {0, 1, -1, 127, 128, 255, 256, -128, -129, 32767, 32768, 65535, 65536, -32768, -32769,
        MOST, LEAST};

    private static void lay() {
        Document.promise(23, "Item i, treated as of a FORM, becomes v (the lowest bits that it has): 1");
        ScoreForms x = new ScoreForms();
        for (int form = 0; form <= 2; form++) {
            x.sheet(form, form, VALUES.length);
            for (int i = 0; i < VALUES.length; i++) {
                Calls.due(x, 1, "lay", form, form, i, VALUES[i]);
            }
            for (int i = 0; i < VALUES.length; i++) {
                int kept = form == 0 ? (byte) VALUES[i] : form == 1 ? (short) VALUES[i] : VALUES[i];
                Calls.due(x, kept, "get", form, form, i);
            }
        }
        x.sheet(3, 0, 60);
        Calls.due(x, 1, "lay", 3, 0, 0, 300);
        Calls.due(x, 1, "lay", 3, 0, 59, -300);
        Calls.due(x, 44, "get", 3, 0, 0);
        Calls.due(x, -44, "get", 3, 0, 59);
        Calls.due(x, 0, "get", 3, 0, 1);
        Calls.due(x, 0, "get", 3, 0, 58);
        Calls.due(x, 0, "count", 8);
    }

    private static void layRefused() {
        ScoreForms x = new ScoreForms();
        TextEdges.lay(x, 0, 1, 3, 4);
        Document.promise(23, "BAD");
        for (int s : NO_SHEET) {
            Calls.due(x, BAD, "lay", s, 1, 0, 9);
        }
        for (int form : NO_FORM) {
            Calls.due(x, BAD, "lay", 0, form, 0, 9);
            Calls.due(x, BAD, "lay", 3, form, 0, 9);
        }
        Calls.due(x, 0, "count", 8);
        Document.promise(23, "NULL");
        Calls.due(x, NULL, "lay", 3, 1, 0, 9);
        Calls.due(x, NULL, "lay", 3, 0, -1, 9);
        Calls.due(x, 1, "count", 8);
        Document.promise(23, "CAST");
        Calls.due(x, CAST, "lay", 0, 0, 0, 9);
        Calls.due(x, CAST, "lay", 0, 2, 0, 9);
        Calls.due(x, CAST, "lay", 0, 2, 2, 9);
        Calls.due(x, 3, "count", 8);
        Document.promise(23, "INDEX");
        for (int i : new int[] {LEAST, -1, 2, 60, MOST}) {
            Calls.due(x, INDEX, "lay", 0, 1, i, 9);
        }
        Calls.due(x, 2, "count", 8);
        x.sheet(1, 0, 0);
        Calls.due(x, INDEX, "lay", 1, 0, 0, 9);
        checkItems(x, 0, 1, 3, 4);
    }

    private static void get() {
        Document.promise(24, "Item i of it");
        ScoreForms x = new ScoreForms();
        x.sheet(2, 2, 60);
        x.lay(2, 2, 0, 11);
        x.lay(2, 2, 59, 12);
        Calls.due(x, 11, "get", 2, 2, 0);
        Calls.due(x, 12, "get", 2, 2, 59);
        Calls.due(x, 0, "get", 2, 2, 58);
        // The least int may be an item, too: then count() 8 stays.
        x.lay(2, 2, 1, LEAST);
        Calls.due(x, LEAST, "get", 2, 2, 1);
        Calls.due(x, 0, "count", 8);
    }

    private static void getRefused() {
        ScoreForms x = new ScoreForms();
        TextEdges.lay(x, 0, 1, 3, 4);
        Document.promise(24, "BAD: the least int");
        for (int s : NO_SHEET) {
            Calls.due(x, LEAST, "get", s, 1, 0);
        }
        for (int form : NO_FORM) {
            Calls.due(x, LEAST, "get", 0, form, 0);
            Calls.due(x, LEAST, "get", 3, form, 0);
        }
        Calls.due(x, 0, "count", 8);
        Document.promise(24, "so are NULL, CAST, INDEX (count() 8 tells)");
        int[][] rows = {{1, 3, 1, 0}, {1, 3, 0, -1}, {3, 0, 0, 0}, {3, 0, 2, 0}, {3, 0, 2, 2}, {3, 0, 0, -1}, {2, 0, 1, -1},
            {2, 0, 1, 2}, {1, 1, 1, 1}, {2, 0, 1, LEAST}, {3, 0, 0, 1}, {2, 0, 1, MOST}};
        for (int[] row : rows) {
            Calls.due(x, LEAST, "get", row[1], row[2], row[3]);
            Calls.due(x, row[0], "count", 8);
        }
        Calls.due(x, 4, "get", 0, 1, 1);
        Calls.due(x, 2, "count", 8);
    }

    private static void copy() {
        Document.promise(25, "n items of SHEET s, from i on, come to SHEET t (perhaps s, as they were), from j on: 1");
        ScoreForms x = new ScoreForms();
        TextEdges.lay(x, 0, 2, 1, 2, 3, 4, 5);
        TextEdges.lay(x, 1, 2, 6, 7, 8);
        Calls.due(x, 1, "copy", 0, 2, 1, 1, 2);
        checkItems(x, 1, 2, 6, 3, 4);
        checkItems(x, 0, 2, 1, 2, 3, 4, 5);
        Calls.due(x, 1, "copy", 0, 0, 0, 1, 4);
        checkItems(x, 0, 2, 1, 1, 2, 3, 4);
        Calls.due(x, 1, "copy", 0, 1, 0, 0, 4);
        checkItems(x, 0, 2, 1, 2, 3, 4, 4);
        Calls.due(x, 1, "copy", 0, 0, 0, 0, 5);
        checkItems(x, 0, 2, 1, 2, 3, 4, 4);
        Calls.due(x, 1, "copy", 1, 0, 0, 2, 3);
        checkItems(x, 0, 2, 1, 2, 6, 3, 4);
        for (int form = 0; form <= 2; form++) {
            x.sheet(2, form, 60);
            x.sheet(3, form, 60);
            x.lay(2, form, 0, -7);
            x.lay(2, form, 59, 7);
            Calls.due(x, 1, "copy", 2, 0, 3, 0, 60);
            Calls.due(x, -7, "get", 3, form, 0);
            Calls.due(x, 7, "get", 3, form, 59);
        }
        // No item at all may be copied from, or to, the place behind the last one.
        Calls.due(x, 1, "copy", 0, 5, 1, 3, 0);
        x.sheet(2, 2, 0);
        Calls.due(x, 1, "copy", 2, 0, 2, 0, 0);
        Calls.due(x, 1, "copy", 2, 0, 0, 5, 0);
    }

    private static void copyRefused() {
        ScoreForms x = new ScoreForms();
        TextEdges.lay(x, 0, 0, 1, 2);
        TextEdges.lay(x, 1, 1, 3, 4);
        Document.promise(25, "BAD: the SHEETS");
        for (int s : NO_SHEET) {
            Calls.due(x, BAD, "copy", s, 0, 0, 0, 1);
            Calls.due(x, BAD, "copy", 0, 0, s, 0, 1);
            Calls.due(x, BAD, "copy", s, 0, 3, 0, 1);
            Calls.due(x, BAD, "copy", 3, 0, s, 0, 1);
            Calls.due(x, BAD, "copy", s, -1, s, -1, -1);
        }
        Calls.due(x, 0, "count", 8);
        Document.promise(25, "NULL: s, t");
        Calls.due(x, NULL, "copy", 2, 0, 0, 0, 1);
        Calls.due(x, NULL, "copy", 0, 0, 2, 0, 1);
        Calls.due(x, NULL, "copy", 2, 0, 3, 0, 0);
        Calls.due(x, NULL, "copy", 2, -1, 2, -1, -1);
        Calls.due(x, 1, "count", 8);
        Document.promise(25, "STORE");
        Calls.due(x, STORE, "copy", 0, 0, 1, 0, 1);
        Calls.due(x, STORE, "copy", 1, 0, 0, 0, 0);
        Calls.due(x, STORE, "copy", 0, -1, 1, 9, -1);
        Calls.due(x, 4, "count", 8);
        checkItems(x, 0, 0, 1, 2);
        checkItems(x, 1, 1, 3, 4);
    }

    private static void copyIndex() {
        ScoreForms x = new ScoreForms();
        TextEdges.lay(x, 0, 0, 1, 2, 3, 4, 5);
        TextEdges.lay(x, 1, 0, 6, 7, 8);
        Document.promise(25, "INDEX: below 0, not so many");
        int[][] wrong = {{-1, 0, 1}, {0, -1, 1}, {0, 0, -1}, {-1, 0, 0}, {0, -1, 0}, {LEAST, 0, 1}, {0, LEAST, 1},
            {0, 0, LEAST}, {0, 0, 4}, {3, 0, 3}, {5, 0, 1}, {6, 0, 0}, {0, 4, 0}, {0, 3, 1}, {0, 1, 3}, {0, 0, MOST},
            {MOST, 0, 1}, {0, MOST, 1}, {1, 0, MOST}, {0, 1, MOST}, {MOST, MOST, MOST}, {2, 2, MOST - 1}};
        for (int[] w : wrong) {
            Calls.due(x, INDEX, "copy", 0, w[0], 1, w[1], w[2]);
        }
        Calls.due(x, INDEX, "copy", 0, 1, 0, 0, 5);
        Calls.due(x, INDEX, "copy", 0, 0, 0, 1, 5);
        Calls.due(x, 2, "count", 8);
        checkItems(x, 0, 0, 1, 2, 3, 4, 5);
        checkItems(x, 1, 0, 6, 7, 8);
    }

    private static void write() {
        Document.promise(26, "Bytes of FOUND come to a SHEET from item 0 on, as many as there are items, and bytes: how many");
        for (int form = 0; form <= 2; form++) {
            ScoreForms x = Check.of("a1ba1b", "");
            TextEdges.lay(x, form, form, 9, 9, 9, 9, 9, 9, 9);
            Calls.due(x, 5, "write", form);
            checkItems(x, form, form, '[', 'a', '1', 'b', ']', 9, 9);
            TextEdges.lay(x, 3, form, 9, 9, 9, 9, 9);
            Calls.due(x, 5, "write", 3);
            checkItems(x, 3, form, '[', 'a', '1', 'b', ']');
            TextEdges.lay(x, 3, form, 9, 9, 9, 9);
            Calls.due(x, 4, "write", 3);
            checkItems(x, 3, form, '[', 'a', '1', 'b');
            TextEdges.lay(x, 3, form);
            Calls.due(x, 0, "write", 3);
            x.type(RUN, '?');
            Calls.due(x, 0, "write", form);
            checkItems(x, form, form, '[', 'a', '1', 'b', ']', 9, 9);
            x.wipe(RUN);
            Calls.due(x, 0, "write", form);
        }
        ScoreForms wide = Check.of("abacdedfghgijkjlmnmopqpr", "");
        wide.sheet(0, 0, 60);
        Calls.due(wide, 42, "write", 0);
        Calls.due(wide, ']', "get", 0, 0, 41);
        Calls.due(wide, 0, "get", 0, 0, 42);
    }

    private static void writeRefused() {
        ScoreForms x = Check.of("abab", "");
        Document.promise(26, "BAD");
        for (int s : NO_SHEET) {
            Calls.due(x, BAD, "write", s);
        }
        Calls.due(x, 0, "count", 8);
        Document.promise(26, "NULL");
        for (int s = 0; s <= 3; s++) {
            Calls.due(x, NULL, "write", s);
            Calls.due(new ScoreForms(), NULL, "write", s);
        }
        Calls.due(x, 1, "count", 8);
        x.sheet(2, 2, 60);
        x.lose(2);
        Calls.due(x, NULL, "write", 2);
    }
}
