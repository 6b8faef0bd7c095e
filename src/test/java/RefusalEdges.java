/**
 * Refusals: the first that fits is answered, and it changes nothing, a FINDING nothing but count() 8. Each refused call
 * is made on one of two objects that are alike; whatever can be asked afterwards, both must answer alike.
 */
final class RefusalEdges {
    private static final int BAD = ScoreForms.BAD, NOT = ScoreForms.NOT, FULL = ScoreForms.FULL;
    private static final int LEAST = Integer.MIN_VALUE;
    private static final int NULL = 1, INDEX = 2, CAST = 3, STORE = 4, SIZE = 5;
    private static final int NEW = 0, USED = 1, FILLED = 2, FAULTY = 3, STATES = 4;

    private RefusalEdges() {
    }

    static void run() {
        badEverywhere();
        nullOnes();
        notOnes();
        fullOnes();
        otherFindings();
        order();
    }

    private static ScoreForms made(int state) {
        if (state == NEW) {
            return new ScoreForms();
        }
        ScoreForms x = state == USED ? Check.of("abacabxz1", "[ab:c;d]!e$")
            : state == FILLED ? Check.of("aabaabaacaabaabaacaabaab", "[[[abcdefghijklmnopqrstuvwxyzabcde]]]!f$")
            : Check.of("ab?cd", "[a[b[c[d");
        x.depth(state);
        // Sheet 3 is LOST, but had been ints; the latest finding differs from state to state.
        TextEdges.lay(x, 3, 2, 1, 2, 3);
        x.lose(3);
        TextEdges.lay(x, 0, 0, 97, 98, 99);
        TextEdges.lay(x, 1, 1, 1000, 98, 99, 100);
        TextEdges.lay(x, 2, 2, 70000, 98);
        Calls.act(x, state == USED ? "sheet" : "lay", 0, state == FAULTY ? 1 : 0, -1, 0);
        return x;
    }

    /** A refusal that is no finding, or a finding with its number. */
    private static void refused(int state, int answer, int finding, String call, int... a) {
        ScoreForms x = made(state);
        ScoreForms like = made(state);
        int due = finding == 0 ? x.count(8) : finding;
        like.count(8);
        Calls.due(x, answer, call, a);
        Check.due("count(8) behind " + Calls.told(call, a), x.count(8), due);
        String behind = " behind " + Calls.told(call, a) + " in state " + state;
        Check.due("digest()" + behind, x.digest(), like.digest());
        Check.due("sheets" + behind, sheets(x), sheets(like));
        Check.due("texts" + behind, texts(x), texts(like));
    }

    private static String sheets(ScoreForms x) {
        StringBuilder all = new StringBuilder();
        for (int s = 0; s <= 3; s++) {
            for (int form = 0; form <= 2; form++) {
                for (int i = 0; i <= 4; i++) {
                    all.append(x.get(s, form, i)).append(' ');
                }
                all.append(x.lay(s, form, 0, 0)).append(' ');
            }
            all.append(x.lose(s)).append(' ');
        }
        return all.toString();
    }

    // What is behind a fault comes to light when the text is undone byte by byte.
    private static String texts(ScoreForms x) {
        StringBuilder all = new StringBuilder();
        for (int text = 0; text <= 1; text++) {
            int left = x.undo(text);
            while (left > 0) {
                all.append(x.fault(text, 0)).append(' ').append(text == 0 ? x.found(3) : x.plays(-1)).append(' ');
                left = x.undo(text);
            }
        }
        return all.append(x.count(0)).toString();
    }

    private static void everywhere(int answer, int finding, String call, int... a) {
        for (int state = 0; state < STATES; state++) {
            refused(state, answer, finding, call, a);
        }
    }

    private static void found(int state, int finding, String call, int... a) {
        refused(state, -10 - finding, finding, call, a);
    }

    private static void badEverywhere() {
        Document.heading(Document.TERMS, "BAD -2 (a number not as told, no such thing)");
        Object[][] calls = {{"type", 2, 97}, {"type", -1, 97}, {"type", 0, 256}, {"type", 1, -1}, {"wipe", 2}, {"wipe", -1},
            {"undo", 2}, {"undo", -1}, {"read", 2, 0}, {"read", -1, 0}, {"read", 0, 4}, {"read", 1, -1}, {"depth", 4},
            {"depth", -1}, {"fault", 2, 0}, {"fault", -1, 0}, {"fault", 0, 3}, {"fault", 1, -1}, {"within", 3}, {"within", -1},
            {"bar", 24}, {"bar", -1}, {"alike", 25, 0}, {"alike", 0, 25}, {"alike", -1, 0}, {"alike", 0, -1},
            {"again", 0, 25}, {"again", -1, 0}, {"again", 25, 25}, {"plays", 640}, {"plays", -2}, {"often", 40}, {"often", -1},
            {"score", 3}, {"score", -1}, {"span", 4, 0, 0, 0}, {"span", -1, 0, 0, 0}, {"span", 0, -1, 0, 0},
            {"span", 0, 0, 25, 0}, {"span", 0, 0, 0, 2}, {"span", 0, 0, 0, -1}, {"found", 4}, {"found", -1}, {"shown", 60},
            {"shown", -1}, {"mend", 3}, {"mend", -1}, {"sheet", 4, 0, 1}, {"sheet", -1, 0, 1}, {"sheet", 0, 3, 1},
            {"sheet", 1, -1, 1}, {"sheet", 2, 0, 61}, {"lose", 4}, {"lose", -1}, {"lay", 4, 0, 0, 1}, {"lay", -1, 0, 0, 1},
            {"lay", 0, 3, 0, 1}, {"lay", 0, -1, 0, 1}, {"copy", 4, 0, 0, 0, 1}, {"copy", 0, 0, 4, 0, 1},
            {"copy", -1, 0, 0, 0, 1}, {"copy", 0, 0, -1, 0, 1}, {"write", 4}, {"write", -1}, {"count", 9}, {"count", -1}};
        for (Object[] call : calls) {
            int[] a = new int[call.length - 1];
            for (int i = 0; i < a.length; i++) {
                a[i] = (Integer) call[i + 1];
            }
            everywhere(BAD, 0, (String) call[0], a);
        }
        everywhere(LEAST, 0, "get", 4, 0, 0);
        everywhere(LEAST, 0, "get", -1, 0, 0);
        everywhere(LEAST, 0, "get", 0, 3, 0);
        everywhere(LEAST, 0, "get", 0, -1, 0);
    }

    private static void nullOnes() {
        Document.heading(Document.TERMS, "NULL, NOT -3 (as told), FULL -4, other FINDINGS.");
        for (int state = 0; state < STATES; state++) {
            found(state, NULL, "read", 0, 3);
            found(state, NULL, "read", 1, 3);
            found(state, NULL, "lose", 3);
            found(state, NULL, "lay", 3, 2, 0, 1);
            refused(state, LEAST, NULL, "get", 3, 2, 0);
            found(state, NULL, "copy", 3, 0, 0, 0, 1);
            found(state, NULL, "copy", 0, 0, 3, 0, 1);
            found(state, NULL, "copy", 3, 0, 3, 0, 0);
            found(state, NULL, "write", 3);
        }
    }

    private static void notOnes() {
        refused(NEW, NOT, 0, "undo", 0);
        refused(NEW, NOT, 0, "undo", 1);
        for (int state = 0; state < STATES; state++) {
            refused(state, NOT, 0, "again", 0, 0);
            refused(state, NOT, 0, "span", 3, 0, 0, 1);
        }
        refused(USED, NOT, 0, "again", 3, 2);
        refused(USED, NOT, 0, "span", 2, 8, 0, 0);
    }

    private static void fullOnes() {
        refused(FILLED, FULL, 0, "type", 0, 'a');
        refused(FILLED, FULL, 0, "type", 1, 'a');
    }

    private static void otherFindings() {
        for (int state = USED; state < STATES; state++) {
            found(state, SIZE, "sheet", 0, 1, -1);
            found(state, SIZE, "sheet", 3, 2, LEAST);
            found(state, CAST, "lay", 0, 1, 0, 1);
            found(state, INDEX, "lay", 0, 0, 3, 1);
            found(state, INDEX, "lay", 0, 0, -1, 1);
            refused(state, LEAST, CAST, "get", 2, 0, 0);
            refused(state, LEAST, INDEX, "get", 2, 2, 2);
            found(state, STORE, "copy", 0, 0, 1, 0, 1);
            found(state, INDEX, "copy", 0, 0, 0, 2, 2);
            found(state, INDEX, "copy", 1, 0, 1, 0, -1);
        }
    }

    private static void order() {
        Document.heading(Document.TERMS, "Refusals, the first that fits, in the order told at each act:");
        Document.heading(Document.TERMS, "They change nothing (FINDINGS but count() 8).");
        refused(FILLED, BAD, 0, "type", 2, 'a');
        refused(FILLED, BAD, 0, "type", 0, 256);
        refused(FILLED, BAD, 0, "type", 1, -1);
        refused(NEW, BAD, 0, "undo", 2);
        everywhere(BAD, 0, "read", 2, 3);
        everywhere(BAD, 0, "again", 25, 0);
        everywhere(BAD, 0, "again", 0, -1);
        everywhere(BAD, 0, "span", 4, 0, 0, 0);
        everywhere(BAD, 0, "span", 0, 25, 0, 0);
        everywhere(BAD, 0, "span", 0, 0, -1, 0);
        everywhere(BAD, 0, "span", 0, 0, 0, 2);
        everywhere(BAD, 0, "sheet", 4, 0, -1);
        everywhere(BAD, 0, "sheet", 0, 3, -1);
        everywhere(BAD, 0, "lay", 3, 3, -1, 1);
        everywhere(LEAST, 0, "get", 3, 3, -1);
        everywhere(BAD, 0, "copy", 4, -1, 3, -1, -1);
        everywhere(BAD, 0, "copy", 3, -1, 4, -1, -1);
        for (int state = 0; state < STATES; state++) {
            // Sheet 3 was of ints before it was LOST: neither CAST nor STORE nor INDEX comes ahead of that.
            found(state, NULL, "lay", 3, 0, -1, 1);
            refused(state, LEAST, NULL, "get", 3, 0, -1);
            found(state, NULL, "copy", 3, -1, 0, -1, -1);
            found(state, NULL, "copy", 0, -1, 3, -1, -1);
        }
        for (int state = USED; state < STATES; state++) {
            found(state, CAST, "lay", 0, 2, 99, 1);
            refused(state, LEAST, CAST, "get", 0, 2, -1);
            found(state, STORE, "copy", 0, -1, 1, 99, -1);
        }
    }
}
