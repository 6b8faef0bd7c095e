/** Each promise by itself: ordinary inputs, the edges that the document names, and wrong inputs. */
public final class PromisesTest {
    private static final int NONE = ScoreForms.NONE, BAD = ScoreForms.BAD, NOT = ScoreForms.NOT, FULL = ScoreForms.FULL;
    private static final int RUN = Check.RUN, SCORE = Check.SCORE;
    private static final int[] WRONG = {Integer.MIN_VALUE, -2, 100, Integer.MAX_VALUE};

    public static void main(String[] args) {
        newObject();
        type();
        wipe();
        undo();
        read();
        depth();
        fault();
        reasons();
        within();
        bar();
        alike();
        again();
        plays();
        often();
        score();
        sameAndFirst();
        span();
        found();
        foundTies();
        shown();
        mend();
        sheet();
        lose();
        layAndGet();
        copy();
        write();
        count();
        digest();
        Check.end();
    }

    private static void newObject() {
        ScoreForms x = new ScoreForms();
        Check.due("new: count(0)", x.count(0), 0);
        Check.due("new: count(3)", x.count(3), 2);
        Check.due("new: count(8)", x.count(8), 0);
        for (int s = 0; s < 4; s++) {
            Check.due("new: lose", x.lose(s), -11);
        }
        Check.due("NONE", NONE, -1);
        Check.due("BAD", BAD, -2);
        Check.due("NOT", NOT, -3);
        Check.due("FULL", FULL, -4);
    }

    private static void type() {
        ScoreForms x = new ScoreForms();
        for (int i = 1; i <= 24; i++) {
            Check.due("type run", x.type(RUN, i % 2 == 0 ? 0 : 255), i);
        }
        Check.due("type run full", x.type(RUN, 97), FULL);
        for (int i = 1; i <= 40; i++) {
            Check.due("type score", x.type(SCORE, 'a'), i);
        }
        Check.due("type score full", x.type(SCORE, 'a'), FULL);
        Check.due("type bad text ahead of full", x.type(2, 97), BAD);
        Check.due("type bad byte ahead of full", x.type(RUN, 256), BAD);
        Check.due("type bad text", x.type(-1, 97), BAD);
        Check.due("type bad byte", x.type(SCORE, -1), BAD);
        Check.due("type refused changes nothing", x.count(0), 64);
    }

    private static void wipe() {
        ScoreForms x = Check.of("ab", "[a]");
        Check.due("wipe run", x.wipe(RUN), 2);
        Check.due("wipe run again", x.wipe(RUN), 0);
        Check.due("wipe leaves the score", x.count(0), 3);
        Check.due("wipe run: bars", x.count(1), 0);
        Check.due("wipe score", x.wipe(SCORE), 3);
        Check.due("wipe score: plays", x.plays(NONE), 0);
        Check.due("wipe bad", x.wipe(2), BAD);
        Check.due("wipe bad", x.wipe(-1), BAD);
    }

    private static void undo() {
        ScoreForms x = Check.of("a1b", "a[");
        Check.due("undo run", x.undo(RUN), 2);
        Check.due("undo run: bars", x.count(1), 1);
        Check.due("undo run", x.undo(RUN), 1);
        Check.due("undo run", x.undo(RUN), 0);
        Check.due("undo run empty", x.undo(RUN), NOT);
        Check.due("undo score", x.undo(SCORE), 1);
        Check.due("undo score mends it", x.fault(SCORE, 0), NONE);
        Check.due("undo bad", x.undo(2), BAD);
        Check.due("undo bad", x.undo(-1), BAD);
    }

    private static void read() {
        ScoreForms x = new ScoreForms();
        Check.due("read lost", x.read(RUN, 0), -11);
        Check.due("read lost: finding", x.count(8), 1);
        Check.due("read bad text", x.read(2, 0), BAD);
        Check.due("read bad text", x.read(-1, 0), BAD);
        Check.due("read bad sheet", x.read(0, 4), BAD);
        Check.due("read bad sheet", x.read(0, -1), BAD);
        x.sheet(0, 2, 5);
        layAll(x, 0, 2, 'a', '1', 255, 256, 'b');
        Check.due("read stops at what is no byte", x.read(SCORE, 0), 3);
        Check.due("read: fault at 255", x.fault(SCORE, 0), 2);
        x.sheet(1, 0, 60);
        for (int i = 0; i < 60; i++) {
            x.lay(1, 0, i, 'z');
        }
        Check.due("read as many as may", x.read(RUN, 1), 24);
        Check.due("read into a full text", x.read(RUN, 1), 0);
        Check.due("read: bars", x.count(1), 24);
        Check.due("read comes behind", x.read(SCORE, 1), 37);
        x.wipe(RUN);
        x.lay(1, 0, 1, 200);
        Check.due("read stops at a byte below 0", x.read(RUN, 1), 1);
        x.sheet(2, 1, 0);
        Check.due("read no items", x.read(RUN, 2), 0);
    }

    private static void depth() {
        ScoreForms x = Check.of("aaaaaaaa", "");
        Check.due("depth 3", x.depth(3), 2);
        Check.due("depth 3: found", x.found(0), 1);
        Check.due("depth 0", x.depth(0), 3);
        Check.due("depth 0: found", x.found(0), 5);
        Check.due("depth 0: mend", x.mend(1), 4);
        Check.due("depth 1", x.depth(1), 0);
        Check.due("depth 1: found", x.found(0), 3);
        Check.due("depth bad", x.depth(4), BAD);
        Check.due("depth bad", x.depth(-1), BAD);
        Check.due("depth stays", x.count(3), 1);
    }

    private static void fault() {
        checkRunFault("", NONE);
        checkRunFault("a1b2z9", NONE);
        checkRunFault("a12", 2);
        checkRunFault("1a", 0);
        checkRunFault("abA", 2);
        checkRunFault("ab[", 2);
        checkRunFault("a`", 1);
        checkRunFault("a{", 1);
        checkRunFault("a/", 1);
        checkRunFault("a:", 1);
        ScoreForms x = Check.of("ab!", "a");
        Check.due("a run with a fault is empty", x.count(1), 0);
        Check.due("but has its bytes", x.count(0), 4);
        Check.due("fault of the other text", x.fault(SCORE, 0), NONE);
        for (int wrong : WRONG) {
            Check.due("fault bad text", x.fault(wrong, 0), BAD);
            Check.due("fault bad what", x.fault(0, wrong), BAD);
        }
        Check.due("fault bad what", x.fault(1, 3), BAD);
        Check.due("fault bad what", x.fault(0, -1), BAD);
    }

    private static void checkRunFault(String run, int place) {
        ScoreForms x = Check.of(run, "");
        Check.due("fault(0, 0) of " + run, x.fault(RUN, 0), place);
        Check.due("fault(0, 1) of " + run, x.fault(RUN, 1), place == NONE ? NONE : 0);
        Check.due("fault(0, 2) of " + run, x.fault(RUN, 2), place == NONE ? NONE : 0);
    }

    private static void reasons() {
        checkScoreFault("", NONE, NONE, NONE);
        checkScoreFault("a1[b]c", NONE, NONE, NONE);
        checkScoreFault("[[[a]]]", NONE, NONE, NONE);
        checkScoreFault("a!b$", NONE, NONE, NONE);
        checkScoreFault("a%b!c$", NONE, NONE, NONE);
        checkScoreFault("[a:[b];c]!d$", NONE, NONE, NONE);
        checkScoreFault("A", 0, 1, 0);
        checkScoreFault("[a(", 2, 1, 1);
        checkScoreFault("a!b$\u0000", 4, 1, 0);
        checkScoreFault("[[[?", 3, 1, 3);
        for (String sign : new String[] {"]", ":", ";", "!", "$", "%"}) {
            checkScoreFault(sign, 0, 2, 0);
            checkScoreFault("[" + sign, 1, 2, 1);
            checkScoreFault("[a:" + sign, 3, 2, 1);
            checkScoreFault("[a:b;" + sign, 5, 2, 1);
            checkScoreFault("a%" + sign, 2, 2, 0);
            checkScoreFault("a!" + sign, 2, 2, 0);
            checkScoreFault("a!b$" + sign, 4, 4, 0);
        }
        checkScoreFault("[[[[", 3, 3, 3);
        checkScoreFault("[[[a[", 4, 3, 3);
        checkScoreFault("[[[a]][[a]]]", NONE, NONE, NONE);
        checkScoreFault("[[[a]][[a[", 9, 3, 3);
        checkScoreFault("a]", 1, 4, 0);
        checkScoreFault("a:", 1, 4, 0);
        checkScoreFault("a;", 1, 4, 0);
        checkScoreFault("a$", 1, 4, 0);
        checkScoreFault("1", 0, 4, 0);
        checkScoreFault("[1", 1, 4, 1);
        checkScoreFault("a11", 2, 4, 0);
        checkScoreFault("[a]1", 3, 4, 0);
        checkScoreFault("[a;", 2, 4, 1);
        checkScoreFault("[a:b]", 4, 4, 1);
        checkScoreFault("[a:b:", 4, 4, 1);
        checkScoreFault("[a:b;c;", 6, 4, 1);
        checkScoreFault("[a:b;c:", 6, 4, 1);
        checkScoreFault("[a!", 2, 4, 1);
        checkScoreFault("[a%", 2, 4, 1);
        checkScoreFault("[a$", 2, 4, 1);
        checkScoreFault("a%b%", 3, 4, 0);
        checkScoreFault("a%b$", 3, 4, 0);
        checkScoreFault("a!b!", 3, 4, 0);
        checkScoreFault("a!b%", 3, 4, 0);
        checkScoreFault("a%b!c%", 5, 4, 0);
        checkScoreFault("a%b!c!", 5, 4, 0);
        checkScoreFault("a!b$a", 4, 4, 0);
        checkScoreFault("a!b$1", 4, 4, 0);
        checkScoreFault("a!b$[", 4, 4, 0);
        checkScoreFault("[", 1, 5, 1);
        checkScoreFault("[a", 2, 5, 1);
        checkScoreFault("[a]b[", 5, 5, 1);
        checkScoreFault("a!", 2, 5, 0);
        checkScoreFault("a!b", 3, 5, 0);
        checkScoreFault("a%", 2, 5, 0);
        checkScoreFault("a%b", 3, 5, 0);
        checkScoreFault("a%b!c", 5, 5, 0);
        checkScoreFault("a!b$cA", 4, 4, 0);
    }

    private static void checkScoreFault(String score, int place, int reason, int within) {
        ScoreForms x = Check.of("", score);
        Check.due("fault(1, 0) of " + score, x.fault(SCORE, 0), place);
        Check.due("fault(1, 1) of " + score, x.fault(SCORE, 1), reason);
        Check.due("fault(1, 2) of " + score, x.fault(SCORE, 2), within);
        if (place != NONE) {
            Check.due("plays of " + score, x.plays(NONE), 0);
            Check.due("often of " + score, x.often(0), BAD);
            for (int what = 0; what <= 2; what++) {
                Check.due("score of " + score, x.score(what), 0);
            }
            Check.due("same of " + score, x.same(), 1);
        }
    }

    private static void within() {
        ScoreForms x = Check.of("", "[a]b[c[d[e]f?");
        Check.due("within(0)", x.within(0), 4);
        Check.due("within(1)", x.within(1), 6);
        Check.due("within(2)", x.within(2), NONE);
        Check.due("fault(1, 2)", x.fault(SCORE, 2), 2);
        Check.tell(x, SCORE, "[[[a]]]");
        Check.due("within no fault", x.within(0), NONE);
        Check.tell(x, SCORE, "[[[a");
        Check.due("within its end", x.within(2), 2);
        Check.tell(x, SCORE, "[a]]");
        Check.due("within none that is open", x.within(0), NONE);
        Check.due("within bad", x.within(3), BAD);
        Check.due("within bad", x.within(-1), BAD);
    }

    private static void bar() {
        ScoreForms x = Check.of("b1bab1a", "");
        int[] numbers = {0, 1, 2, 0, 2};
        for (int i = 0; i < numbers.length; i++) {
            Check.due("bar(" + i + ")", x.bar(i), numbers[i]);
        }
        Check.due("bar bad", x.bar(5), BAD);
        Check.due("bar bad", x.bar(-1), BAD);
        x.type(RUN, '?');
        Check.due("bar of a run with a fault", x.bar(0), BAD);
    }

    private static void alike() {
        ScoreForms x = Check.of("ababab1", "");
        Check.due("alike(0, 2)", x.alike(0, 2), 3);
        Check.due("alike(2, 0)", x.alike(2, 0), 3);
        Check.due("alike(0, 0)", x.alike(0, 0), 6);
        Check.due("alike(0, 1)", x.alike(0, 1), 0);
        Check.due("alike(0, 5)", x.alike(0, 5), 0);
        Check.due("alike(5, 5)", x.alike(5, 5), 1);
        Check.due("alike behind", x.alike(6, 6), 0);
        Check.due("alike behind", x.alike(24, 24), 0);
        Check.due("alike bad", x.alike(25, 0), BAD);
        Check.due("alike bad", x.alike(0, 25), BAD);
        Check.due("alike bad", x.alike(-1, 0), BAD);
        Check.due("alike bad", x.alike(0, -1), BAD);
    }

    private static void again() {
        ScoreForms x = Check.of("abababac", "");
        Check.due("again(0, 2)", x.again(0, 2), 3);
        Check.due("again(0, 1)", x.again(0, 1), 1);
        Check.due("again(2, 4)", x.again(2, 4), 2);
        Check.due("again(0, 8)", x.again(0, 8), 1);
        Check.due("again(7, 8)", x.again(7, 8), 1);
        Check.due("again not", x.again(8, 8), NOT);
        Check.due("again not", x.again(3, 2), NOT);
        Check.due("again bad", x.again(0, 9), BAD);
        Check.due("again bad ahead of not", x.again(9, 0), BAD);
        Check.due("again bad", x.again(-1, 1), BAD);
        Check.due("again bad", x.again(0, -1), BAD);
    }

    private static void plays() {
        checkPlays("a", "0");
        checkPlays("[ab]", "0 1 0 1");
        checkPlays("[a:b;c]", "0 1 0 2");
        checkPlays("a!b$", "0 1 0");
        checkPlays("a%b!c$", "0 1 2 1");
        checkPlays("x[[a]:[b];[c]]", "0 1 1 2 2 1 1 3 3");
        checkPlays("[a:[b:c;d];[e]]", "0 1 2 1 3 0 4 4");
        checkPlays("[a][b]!c$", "0 0 1 1 2 0 0 1 1");
        checkPlays("a%[b]c![d:e;f]$", "0 1 1 2 3 4 3 5 1 1 2");
        checkPlays("[[[a1]]]", "0 0 0 0 0 0 0 0");
        ScoreForms x = Check.of("", "[[[abcdefghijklmnopqrstuvwxyzabcde]]]!f$");
        Check.due("the longest plays", x.plays(NONE), 31 * 16 + 1);
        Check.due("the longest: last", x.plays(496), 30);
        Check.due("the longest: behind", x.plays(497), NONE);
        Check.due("plays 639", x.plays(639), NONE);
        Check.due("plays bad", x.plays(640), BAD);
        Check.due("plays bad", x.plays(-2), BAD);
    }

    private static void checkPlays(String score, String order) {
        Check.due("plays of " + score, Check.plays(Check.of("", score)), order);
    }

    private static void often() {
        ScoreForms x = Check.of("", "[a[b:c;d]]!e$");
        int[] times = {4, 8, 4, 4, 1};
        for (int i = 0; i < times.length; i++) {
            Check.due("often(" + i + ")", x.often(i), times[i]);
        }
        Check.due("often bad", x.often(5), BAD);
        Check.due("often bad", x.often(-1), BAD);
    }

    private static void score() {
        ScoreForms x = Check.of("", "a1[b:[c];d2]%e!f$");
        Check.due("score(0)", x.score(0), 6);
        Check.due("score(1)", x.score(1), 9);
        Check.due("score(2)", x.score(2), 2);
        Check.due("score bad", x.score(3), BAD);
        Check.due("score bad", x.score(-1), BAD);
        x.wipe(SCORE);
        for (int what = 0; what <= 2; what++) {
            Check.due("score of none", x.score(what), 0);
        }
    }

    private static void sameAndFirst() {
        checkFirst("", "", NONE);
        checkFirst("abab", "[ab]", NONE);
        checkFirst("aba", "[ab]", 3);
        checkFirst("ababa", "[ab]", 4);
        checkFirst("a1b", "ab", 0);
        checkFirst("aba1", "abab1", 2);
        checkFirst("ab1", "ab2", 1);
        checkFirst("", "a", 0);
        checkFirst("a", "", 0);
        checkFirst("a?", "a[", NONE);
        checkFirst("a", "a[", 0);
        checkFirst("abcb", "a%b!c$", NONE);
    }

    private static void checkFirst(String run, String score, int first) {
        ScoreForms x = Check.of(run, score);
        Check.due("first of " + run + " and " + score, x.first(), first);
        Check.due("same of " + run + " and " + score, x.same(), first == NONE ? 1 : 0);
    }

    private static void span() {
        ScoreForms x = Check.of("aabaac", "");
        Check.due("span depth 0", x.span(0, 0, 6, 0), 6);
        Check.due("span depth 0 signs", x.span(0, 0, 6, 1), 0);
        Check.due("span depth 1", x.span(1, 0, 6, 0), 4);
        Check.due("span depth 1 signs", x.span(1, 0, 6, 1), 4);
        Check.due("span depth 2", x.span(2, 0, 6, 0), 3);
        Check.due("span depth 2 signs", x.span(2, 0, 6, 1), 6);
        Check.due("span of one", x.span(3, 5, 6, 0), 1);
        Check.due("span of one signs", x.span(3, 5, 6, 1), 0);
        Check.due("span not", x.span(0, 6, 6, 0), NOT);
        Check.due("span not", x.span(0, 2, 1, 0), NOT);
        Check.due("span bad depth ahead of not", x.span(4, 2, 1, 0), BAD);
        Check.due("span bad depth", x.span(-1, 0, 1, 0), BAD);
        Check.due("span bad i", x.span(0, -1, 1, 0), BAD);
        Check.due("span bad i ahead of not", x.span(0, 7, 1, 0), BAD);
        Check.due("span bad j", x.span(0, 0, 7, 0), BAD);
        Check.due("span bad j", x.span(0, 0, -1, 0), BAD);
        Check.due("span bad what ahead of not", x.span(0, 1, 1, 2), BAD);
        Check.due("span bad what", x.span(0, 0, 1, -1), BAD);
        Check.due("span does not go by DEPTH", x.depth(0), 2);
        Check.due("span does not go by DEPTH", x.span(2, 0, 6, 0), 3);
    }

    private static void found() {
        checkFound("", 2, 0, "");
        checkFound("a", 2, 0, "a");
        checkFound("abab", 2, 0, "[ab]");
        checkFound("abab", 0, 2, "a%b!a$");
        checkFound("abac", 1, 0, "[a:b;c]");
        checkFound("aba", 2, 1, "a!b$");
        checkFound("abcb", 0, 2, "a%b!c$");
        checkFound("aaaa", 1, 0, "[aa]");
        checkFound("aaaaa", 1, 1, "[a]!a$");
        checkFound("a1b2a1b2c", 2, 0, "[a1b2]c");
        checkFound("a1ba1", 2, 1, "a1!b$");
        checkFound("efbefxxxx", 2, 0, "[ef:b;[xx]]");
        checkFound("xxxxbxxxxc", 2, 0, "[[xx]:b;c]");
        checkFound("efxxxxefb", 2, 0, "[ef:[xx];b]");
    }

    private static void checkFound(String run, int depth, int how, String due) {
        ScoreForms x = Check.of(run, "");
        x.depth(depth);
        Check.due("found of " + run, Check.shown(x), due);
        Check.due("found(2) of " + run, x.found(2), how);
        Check.due("found(3) of " + run, x.found(3), due.length());
        int signs = due.replaceAll("[a-z0-9]", "").length();
        int bars = due.replaceAll("[^a-z]", "").length();
        Check.due("found(0) of " + run, x.found(0), bars);
        Check.due("found(1) of " + run, x.found(1), signs);
        Check.due("found bad", x.found(4), BAD);
        Check.due("found bad", x.found(-1), BAD);
    }

    private static void foundTies() {
        checkTie("two parts: the first as short as may be", "aaa", 1, "a[a]");
        checkTie("two parts ahead of a jump", "aaa", 3, "a[a]");
        checkTie("a jump from the beginning ahead of one from a sign: fewer signs", "aaa", 0, "a!a$");
    }

    private static void checkTie(String why, String run, int depth, String due) {
        ScoreForms x = Check.of(run, "");
        x.depth(depth);
        Check.due(why, Check.shown(x), due);
    }

    private static void shown() {
        ScoreForms x = Check.of("a1ba1b", "");
        int[] bytes = {'[', 'a', '1', 'b', ']', NONE};
        for (int i = 0; i < bytes.length; i++) {
            Check.due("shown(" + i + ")", x.shown(i), bytes[i]);
        }
        Check.due("shown(59)", x.shown(59), NONE);
        Check.due("shown bad", x.shown(60), BAD);
        Check.due("shown bad", x.shown(-1), BAD);
    }

    private static void mend() {
        checkMend("", 2, NONE, NONE, NONE);
        checkMend("a", 2, 0, 0, 0);
        checkMend("ab", 2, 0, 1, 0);
        checkMend("abxab", 2, 2, 2, 2);
        checkMend("aaa", 2, 0, 1, 2);
        checkMend("ab?", 2, NONE, NONE, NONE);
        checkMend("abxab", 0, 0, 3, 2);
        ScoreForms x = Check.of("ab", "");
        Check.due("mend bad", x.mend(3), BAD);
        Check.due("mend bad", x.mend(-1), BAD);
        Check.due("mend leaves the run", x.count(1), 2);
    }

    private static void checkMend(String run, int depth, int which, int bars, int signs) {
        ScoreForms x = Check.of(run, "");
        x.depth(depth);
        Check.due("mend(0) of " + run, x.mend(0), which);
        Check.due("mend(1) of " + run, x.mend(1), bars);
        Check.due("mend(2) of " + run, x.mend(2), signs);
    }

    private static void sheet() {
        ScoreForms x = new ScoreForms();
        Check.due("sheet", x.sheet(3, 2, 60), 60);
        Check.due("sheet items are 0", x.get(3, 2, 59), 0);
        x.lay(3, 2, 59, 7);
        Check.due("sheet anew", x.sheet(3, 2, 60), 60);
        Check.due("sheet anew is 0", x.get(3, 2, 59), 0);
        Check.due("sheet without items", x.sheet(0, 0, 0), 0);
        Check.due("sheet size", x.sheet(1, 0, -1), -15);
        Check.due("sheet size: finding", x.count(8), 5);
        Check.due("sheet size leaves it lost", x.lose(1), -11);
        Check.due("sheet size", x.sheet(3, 0, Integer.MIN_VALUE), -15);
        Check.due("sheet size leaves it", x.get(3, 2, 59), 0);
        Check.due("sheet bad", x.sheet(4, 0, 1), BAD);
        Check.due("sheet bad", x.sheet(-1, 0, 1), BAD);
        Check.due("sheet bad form ahead of size", x.sheet(0, 3, -1), BAD);
        Check.due("sheet bad form", x.sheet(0, -1, 1), BAD);
        Check.due("sheet bad above 60", x.sheet(0, 0, 61), BAD);
    }

    private static void lose() {
        ScoreForms x = new ScoreForms();
        x.sheet(2, 1, 17);
        Check.due("lose", x.lose(2), 17);
        Check.due("lose lost", x.lose(2), -11);
        Check.due("lose lost: finding", x.count(8), 1);
        Check.due("lose bad", x.lose(4), BAD);
        Check.due("lose bad", x.lose(-1), BAD);
    }

    private static void layAll(ScoreForms x, int s, int form, int... values) {
        for (int i = 0; i < values.length; i++) {
            Check.due("lay", x.lay(s, form, i, values[i]), 1);
        }
    }

    private static void layAndGet() {
        ScoreForms x = new ScoreForms();
        int least = Integer.MIN_VALUE;
        int[] values = {0, 127, 128, 255, 256, 32767, 32768, 65535, 65536, -1, -129, -32769, least, Integer.MAX_VALUE};
        for (int form = 0; form < 3; form++) {
            x.sheet(form, form, values.length);
            layAll(x, form, form, values);
            for (int i = 0; i < values.length; i++) {
                int kept = form == 0 ? (byte) values[i] : form == 1 ? (short) values[i] : values[i];
                Check.due("get of " + values[i], x.get(form, form, i), kept);
            }
        }
        Check.due("count(8) before any finding", x.count(8), 0);
        Check.due("lay bad sheet", x.lay(4, 0, 0, 1), BAD);
        Check.due("lay bad sheet", x.lay(-1, 0, 0, 1), BAD);
        Check.due("lay bad form ahead of null", x.lay(3, 3, 0, 1), BAD);
        Check.due("lay bad form", x.lay(0, -1, 0, 1), BAD);
        Check.due("get bad sheet", x.get(4, 0, 0), least);
        Check.due("get bad form", x.get(3, 3, 0), least);
        Check.due("bad is no finding", x.count(8), 0);
        Check.due("lay null", x.lay(3, 0, 0, 1), -11);
        Check.due("lay cast ahead of index", x.lay(0, 1, 99, 1), -13);
        Check.due("lay cast: finding", x.count(8), 3);
        Check.due("lay index", x.lay(0, 0, values.length, 1), -12);
        Check.due("lay index", x.lay(0, 0, -1, 1), -12);
        Check.due("lay index: finding", x.count(8), 2);
        Check.due("get null", x.get(3, 0, 0), least);
        Check.due("get null: finding", x.count(8), 1);
        Check.due("get cast", x.get(0, 2, -1), least);
        Check.due("get cast: finding", x.count(8), 3);
        Check.due("get index", x.get(0, 0, least), least);
        Check.due("get index: finding", x.count(8), 2);
        Check.due("get leaves the finding", x.get(0, 0, 1), 127);
        Check.due("get leaves the finding", x.count(8), 2);
    }

    private static void copy() {
        ScoreForms x = new ScoreForms();
        x.sheet(0, 0, 5);
        x.sheet(1, 0, 3);
        x.sheet(2, 1, 5);
        layAll(x, 0, 0, 1, 2, 3, 4, 5);
        Check.due("copy", x.copy(0, 1, 1, 0, 3), 1);
        checkItems(x, 1, 2, 3, 4);
        Check.due("copy within, onward", x.copy(0, 0, 0, 1, 4), 1);
        checkItems(x, 0, 1, 1, 2, 3, 4);
        Check.due("copy within, back", x.copy(0, 2, 0, 0, 3), 1);
        checkItems(x, 0, 2, 3, 4, 3, 4);
        Check.due("copy nothing at the end", x.copy(0, 5, 1, 3, 0), 1);
        Check.due("copy bad", x.copy(4, 0, 0, 0, 0), BAD);
        Check.due("copy bad ahead of null", x.copy(3, 0, -1, 0, 0), BAD);
        Check.due("copy null s", x.copy(3, 0, 0, 0, 0), -11);
        Check.due("copy null t", x.copy(0, 0, 3, 0, 0), -11);
        Check.due("copy null: finding", x.count(8), 1);
        Check.due("copy store ahead of index", x.copy(0, -1, 2, 0, 9), -14);
        Check.due("copy store: finding", x.count(8), 4);
        int[][] wrong = {{-1, 0, 1}, {0, -1, 1}, {0, 0, -1}, {0, 0, 4}, {3, 0, 3}, {6, 0, 0}, {0, 4, 0}, {0, 1, 3},
            {Integer.MAX_VALUE, 0, 1}, {0, Integer.MAX_VALUE, 1}, {1, 1, Integer.MAX_VALUE}, {0, 0, Integer.MIN_VALUE}};
        for (int[] w : wrong) {
            Check.due("copy index " + w[0] + " " + w[1] + " " + w[2], x.copy(0, w[0], 1, w[1], w[2]), -12);
        }
        Check.due("copy index: finding", x.count(8), 2);
        checkItems(x, 1, 2, 3, 4);
    }

    private static void checkItems(ScoreForms x, int s, int... items) {
        for (int i = 0; i < items.length; i++) {
            Check.due("get(" + s + ", 0, " + i + ")", x.get(s, 0, i), items[i]);
        }
    }

    private static void write() {
        ScoreForms x = Check.of("abab", "");
        x.sheet(0, 0, 6);
        layAll(x, 0, 0, 9, 9, 9, 9, 9, 9);
        Check.due("write", x.write(0), 4);
        checkItems(x, 0, '[', 'a', 'b', ']', 9, 9);
        x.sheet(1, 2, 2);
        Check.due("write as many as there are items", x.write(1), 2);
        Check.due("write to ints", x.get(1, 2, 1), 'a');
        x.sheet(2, 1, 0);
        Check.due("write to no items", x.write(2), 0);
        x.wipe(RUN);
        Check.due("write nothing", x.write(0), 0);
        checkItems(x, 0, '[', 'a', 'b', ']', 9, 9);
        Check.due("write null", x.write(3), -11);
        Check.due("write null: finding", x.count(8), 1);
        Check.due("write bad", x.write(4), BAD);
        Check.due("write bad", x.write(-1), BAD);
    }

    private static void count() {
        ScoreForms x = Check.of("a1ba1b", "[a1b]c");
        int[] due = {12, 4, 2, 2, 5, 3, 2, 2, 0};
        for (int what = 0; what <= 8; what++) {
            Check.due("count(" + what + ")", x.count(what), due[what]);
        }
        x.depth(0);
        Check.due("count(3)", x.count(3), 0);
        Check.due("count(6)", x.count(6), 3);
        Check.due("count(7)", x.count(7), 3);
        x.type(RUN, '!');
        Check.due("count(0) with a fault", x.count(0), 13);
        Check.due("count(2) with a fault", x.count(2), 0);
        Check.due("count bad", x.count(9), BAD);
        Check.due("count bad", x.count(-1), BAD);
    }

    private static void digest() {
        checkDigest(new ScoreForms());
        checkDigest(Check.of("abab1ac", "[ab:c;d1]!e$"));
        checkDigest(Check.of("aaaaaaaaaaaaaaaaaaaaaaaa", "[[[abcdefghijklmnopqrstuvwxyzabcde]]]!f$"));
        checkDigest(Check.of("a12", "[a[b:"));
        ScoreForms x = Check.of("abc", "");
        long was = x.digest();
        x.lose(0);
        Check.due("digest leaves out the finding", x.digest(), was);
        Check.due("digest leaves the finding", x.count(8), 1);
    }

    private static void checkDigest(ScoreForms x) {
        java.util.ArrayList<Integer> row = new java.util.ArrayList<>();
        for (int what = 0; what <= 7; what++) {
            row.add(x.count(what));
        }
        row.add(x.fault(0, 0));
        row.add(x.fault(1, 0));
        row.add(x.fault(1, 1));
        row.add(x.fault(1, 2));
        row.add(x.within(0));
        row.add(x.within(1));
        row.add(x.within(2));
        int bars = x.count(1);
        for (int it = 0; it < bars; it++) {
            row.add(x.bar(it));
            row.add(x.alike(it, 0));
            row.add(x.again(0, it));
            row.add(x.span(1, 0, it, 0));
            row.add(x.span(2, it, bars, 1));
            row.add(x.span(3, 0, it, 1));
        }
        for (int i = -1; i <= 40; i++) {
            row.add(x.plays(i));
        }
        for (int it = 0; it < x.score(0); it++) {
            row.add(x.often(it));
        }
        for (int what = 0; what <= 2; what++) {
            row.add(x.score(what));
        }
        row.add(x.same());
        row.add(x.first());
        for (int what = 0; what <= 3; what++) {
            row.add(x.found(what));
        }
        for (int i = 0; i < 60; i++) {
            row.add(x.shown(i));
        }
        for (int what = 0; what <= 2; what++) {
            row.add(x.mend(what));
        }
        long h = 17;
        for (int one : row) {
            h = 31 * h + one;
        }
        Check.due("digest", x.digest(), h);
    }
}
