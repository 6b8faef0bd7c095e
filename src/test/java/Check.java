/** What the tests share: counting wrong answers, and telling texts. */
final class Check {
    static final int RUN = 0, SCORE = 1;
    private static int wrong = 0;
    private static String words = "";

    private Check() {
    }

    /** The document's words that the next answers are due by, told with every wrong one. */
    static void about(String heading, String sentence) {
        words = heading + ", \"" + sentence + "\": ";
    }

    static void due(String call, long got, long want) {
        if (got != want) {
            tellWrong(call + " answered " + got + ", due is " + want);
        }
    }

    static void due(String call, String got, String want) {
        if (!got.equals(want)) {
            tellWrong(call + " answered \"" + got + "\", due is \"" + want + "\"");
        }
    }

    private static void tellWrong(String answer) {
        wrong++;
        if (wrong <= 50) {
            System.out.println(words + answer);
        }
    }

    /** Ends the test: with exit code 1 if an answer was wrong. */
    static void end() {
        System.out.println(wrong == 0 ? "all answers are as due" : wrong + " answers are not as due");
        if (wrong != 0) {
            System.exit(1);
        }
    }

    static ScoreForms of(String run, String score) {
        ScoreForms x = new ScoreForms();
        tell(x, RUN, run);
        tell(x, SCORE, score);
        return x;
    }

    static void tell(ScoreForms x, int text, String bytes) {
        x.wipe(text);
        for (int i = 0; i < bytes.length(); i++) {
            due("type(" + text + ") of " + bytes, x.type(text, bytes.charAt(i)), i + 1);
        }
    }

    static String shown(ScoreForms x) {
        StringBuilder all = new StringBuilder();
        int b = x.shown(0);
        for (int i = 1; b != ScoreForms.NONE && b != ScoreForms.BAD; i++) {
            all.append((char) b);
            b = x.shown(i);
        }
        return all.toString();
    }

    static String plays(ScoreForms x) {
        StringBuilder all = new StringBuilder();
        int size = x.plays(ScoreForms.NONE);
        for (int i = 0; i < size; i++) {
            all.append(x.plays(i)).append(' ');
        }
        return all.toString().trim();
    }
}
