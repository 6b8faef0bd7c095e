/** The smallest score, with repeats, endings and jumps, that plays out to a given run of bars. */
public final class ScoreForms {
    public static final int NONE = -1, BAD = -2, NOT = -3, FULL = -4;

    private static final int RUN = 0, SCORE = 1, TEXTS = 2;
    private static final int RUN_BYTES = 24, SCORE_BYTES = 40;
    private static final int PLAYED = 640, SHOWN = 60;
    private static final int DEEPEST = 3, DEPTH_AT_FIRST = 2;
    private static final int SHEETS = 4, FORMS = 3, ITEMS = 60;
    private static final int NULL = 1, INDEX = 2, CAST = 3, STORE = 4, SIZE = 5;
    private static final int LEAST = -2147483648;
    private static final int STRANGE = 1, EMPTY = 2, DEEP = 3, STRAY = 4, OPEN = 5;

    private final Text[] texts = {new Text(RUN_BYTES), new Text(SCORE_BYTES)};
    private final Run theRun = new Run();
    private final Score theScore = new Score();
    private final Spans spans = new Spans();
    private final Jumps jumps = new Jumps();
    private final Printer printer = new Printer();
    private final Mending mending = new Mending();
    private final Sheet[] sheets = {new Sheet(), new Sheet(), new Sheet(), new Sheet()};
    private int depthNow = DEPTH_AT_FIRST;
    private int latestFinding = 0;

    // What is found is dear, so it is made when it is asked for and kept until a text or DEPTH changes.
    private boolean runStale = true;
    private boolean scoreStale = true;
    private boolean spansStale = true;
    private boolean foundStale = true;
    private boolean mendStale = true;

    public ScoreForms() {
    }

    // ---- texts

    public int type(int text, int b) {
        if (!isText(text) || !isByte(b)) {
            return BAD;
        }
        if (texts[text].isFull()) {
            return FULL;
        }
        texts[text].add(b);
        noteChange(text);
        return texts[text].size;
    }

    public int wipe(int text) {
        if (!isText(text)) {
            return BAD;
        }
        int had = texts[text].size;
        texts[text].size = 0;
        noteChange(text);
        return had;
    }

    public int undo(int text) {
        if (!isText(text)) {
            return BAD;
        }
        if (texts[text].size == 0) {
            return NOT;
        }
        texts[text].size--;
        noteChange(text);
        return texts[text].size;
    }

    public int read(int text, int s) {
        if (!isText(text) || !isSheet(s)) {
            return BAD;
        }
        if (sheets[s].lost) {
            return finding(NULL);
        }
        Sheet from = sheets[s];
        Text to = texts[text];
        int came = 0;
        while (came < from.size && !to.isFull() && isByte(from.items[came])) {
            to.add(from.items[came]);
            came++;
        }
        noteChange(text);
        return came;
    }

    public int depth(int v) {
        if (!isDepth(v)) {
            return BAD;
        }
        int was = depthNow;
        depthNow = v;
        if (was != v) {
            foundStale = true;
            mendStale = true;
        }
        return was;
    }

    public int fault(int text, int what) {
        if (!isText(text) || what < 0 || what > 2) {
            return BAD;
        }
        int place = text == RUN ? freshRun().faultPlace : freshScore().faultPlace;
        if (place == NONE || what == 0) {
            return place;
        }
        if (text == RUN) {
            return 0;
        }
        return what == 1 ? theScore.faultReason : theScore.grammar.open;
    }

    public int within(int j) {
        if (j < 0 || j >= DEEPEST) {
            return BAD;
        }
        Score score = freshScore();
        if (score.faultPlace == NONE || j >= score.grammar.open) {
            return NONE;
        }
        return score.grammar.places[j];
    }

    // ---- the run

    public int bar(int i) {
        Run run = freshRun();
        if (i < 0 || i >= run.bars.size) {
            return BAD;
        }
        return run.numbers[i];
    }

    public int alike(int i, int j) {
        if (i < 0 || i > RUN_BYTES || j < 0 || j > RUN_BYTES) {
            return BAD;
        }
        return freshSpans().alikeFrom(i, j);
    }

    public int again(int i, int j) {
        Spans known = freshSpans();
        if (!known.has(i) || !known.has(j)) {
            return BAD;
        }
        if (j <= i) {
            return NOT;
        }
        // A stretch goes on as long as its bars are like those one stretch later.
        return 1 + known.alikeFrom(i, j) / (j - i);
    }

    // ---- the score

    public int plays(int i) {
        if (i < NONE || i >= PLAYED) {
            return BAD;
        }
        Player player = freshScore().player;
        if (i == NONE) {
            return player.size;
        }
        return i < player.size ? player.order[i] : NONE;
    }

    public int often(int printed) {
        Score score = freshScore();
        if (printed < 0 || printed >= score.printed.size) {
            return BAD;
        }
        int times = 0;
        for (int i = 0; i < score.player.size; i++) {
            if (score.player.order[i] == printed) {
                times++;
            }
        }
        return times;
    }

    public int score(int what) {
        if (what < 0 || what > 2) {
            return BAD;
        }
        Score score = freshScore();
        if (what == 0) {
            return score.printed.size;
        }
        return what == 1 ? score.signs : score.deepest;
    }

    public int same() {
        return first() == NONE ? 1 : 0;
    }

    public int first() {
        Bars bars = freshRun().bars;
        Score score = freshScore();
        int both = Math.min(bars.size, score.player.size);
        for (int i = 0; i < both; i++) {
            if (bars.codes[i] != score.playedCode(i)) {
                return i;
            }
        }
        return bars.size == score.player.size ? NONE : both;
    }

    // ---- what is found

    public int span(int depth, int i, int j, int what) {
        Spans known = freshSpans();
        if (!isDepth(depth) || !known.has(i) || !known.has(j) || what < 0 || what > 1) {
            return BAD;
        }
        if (j <= i) {
            return NOT;
        }
        int cost = known.cost(depth, i, j);
        return what == 0 ? barsOf(cost) : signsOf(cost);
    }

    public int found(int what) {
        if (what < 0 || what > 3) {
            return BAD;
        }
        Jumps best = freshFound();
        switch (what) {
            case 0:
                return barsOf(best.cost);
            case 1:
                return signsOf(best.cost);
            case 2:
                return best.kind;
            default:
                return printer.size;
        }
    }

    public int shown(int i) {
        if (i < 0 || i >= SHOWN) {
            return BAD;
        }
        freshFound();
        return i < printer.size ? printer.bytes[i] : NONE;
    }

    public int mend(int what) {
        if (what < 0 || what > 2) {
            return BAD;
        }
        Mending best = freshMending();
        if (best.which == NONE || what == 0) {
            return best.which;
        }
        return what == 1 ? barsOf(best.cost) : signsOf(best.cost);
    }

    // ---- sheets

    public int sheet(int s, int form, int n) {
        if (!isSheet(s) || !isForm(form) || n > ITEMS) {
            return BAD;
        }
        if (n < 0) {
            return finding(SIZE);
        }
        sheets[s].renew(form, n);
        return n;
    }

    public int lose(int s) {
        if (!isSheet(s)) {
            return BAD;
        }
        if (sheets[s].lost) {
            return finding(NULL);
        }
        sheets[s].lost = true;
        return sheets[s].size;
    }

    public int lay(int s, int form, int i, int v) {
        if (!isSheet(s) || !isForm(form)) {
            return BAD;
        }
        int hindrance = hindranceAt(sheets[s], form, i);
        if (hindrance != 0) {
            return finding(hindrance);
        }
        sheets[s].put(i, v);
        return 1;
    }

    public int get(int s, int form, int i) {
        if (!isSheet(s) || !isForm(form)) {
            return LEAST;
        }
        int hindrance = hindranceAt(sheets[s], form, i);
        if (hindrance != 0) {
            latestFinding = hindrance;
            return LEAST;
        }
        return sheets[s].items[i];
    }

    public int copy(int s, int i, int t, int j, int n) {
        if (!isSheet(s) || !isSheet(t)) {
            return BAD;
        }
        Sheet from = sheets[s];
        Sheet to = sheets[t];
        if (from.lost || to.lost) {
            return finding(NULL);
        }
        if (from.form != to.form) {
            return finding(STORE);
        }
        if (n < 0 || !from.holds(i, n) || !to.holds(j, n)) {
            return finding(INDEX);
        }
        System.arraycopy(from.items, i, to.items, j, n);
        return 1;
    }

    public int write(int s) {
        if (!isSheet(s)) {
            return BAD;
        }
        if (sheets[s].lost) {
            return finding(NULL);
        }
        freshFound();
        int came = Math.min(sheets[s].size, printer.size);
        for (int i = 0; i < came; i++) {
            sheets[s].put(i, printer.bytes[i]);
        }
        return came;
    }

    public int count(int what) {
        switch (what) {
            case 0:
                return texts[RUN].size + texts[SCORE].size;
            case 1:
                return freshRun().bars.size;
            case 2:
                return freshRun().unlike;
            case 3:
                return depthNow;
            case 4:
                return freshScore().player.size;
            case 5:
                return freshScore().printed.size;
            case 6:
                return barsOf(freshFound().cost);
            case 7:
                return signsOf(freshFound().cost);
            case 8:
                return latestFinding;
            default:
                return BAD;
        }
    }

    public long digest() {
        long h = 17;
        for (int what = 0; what <= 7; what++) {
            h = 31 * h + count(what);
        }
        h = 31 * h + fault(RUN, 0);
        for (int what = 0; what <= 2; what++) {
            h = 31 * h + fault(SCORE, what);
        }
        for (int j = 0; j < DEEPEST; j++) {
            h = 31 * h + within(j);
        }
        int bars = count(1);
        for (int it = 0; it < bars; it++) {
            h = 31 * h + bar(it);
            h = 31 * h + alike(it, 0);
            h = 31 * h + again(0, it);
            h = 31 * h + span(1, 0, it, 0);
            h = 31 * h + span(2, it, bars, 1);
            h = 31 * h + span(3, 0, it, 1);
        }
        for (int i = NONE; i <= 40; i++) {
            h = 31 * h + plays(i);
        }
        int printed = count(5);
        for (int it = 0; it < printed; it++) {
            h = 31 * h + often(it);
        }
        for (int what = 0; what <= 2; what++) {
            h = 31 * h + score(what);
        }
        h = 31 * h + same();
        h = 31 * h + first();
        for (int what = 0; what <= 3; what++) {
            h = 31 * h + found(what);
        }
        for (int i = 0; i < SHOWN; i++) {
            h = 31 * h + shown(i);
        }
        for (int what = 0; what <= 2; what++) {
            h = 31 * h + mend(what);
        }
        return h;
    }

    // ---- what the calls share

    private static boolean isText(int text) {
        return text >= 0 && text < TEXTS;
    }

    private static boolean isByte(int b) {
        return b >= 0 && b <= 255;
    }

    private static boolean isDepth(int v) {
        return v >= 0 && v <= DEEPEST;
    }

    private static boolean isSheet(int s) {
        return s >= 0 && s < SHEETS;
    }

    private static boolean isForm(int form) {
        return form >= 0 && form < FORMS;
    }

    private static boolean isLetter(int b) {
        return b >= 'a' && b <= 'z';
    }

    private static boolean isFigure(int b) {
        return b >= '0' && b <= '9';
    }

    private static int barsOf(int cost) {
        return cost / Spans.ONE_BAR;
    }

    private static int signsOf(int cost) {
        return cost % Spans.ONE_BAR;
    }

    private static int hindranceAt(Sheet sheet, int form, int i) {
        if (sheet.lost) {
            return NULL;
        }
        if (sheet.form != form) {
            return CAST;
        }
        return sheet.holds(i, 1) ? 0 : INDEX;
    }

    private int finding(int number) {
        latestFinding = number;
        return -10 - number;
    }

    private void noteChange(int text) {
        if (text == SCORE) {
            scoreStale = true;
            return;
        }
        runStale = true;
        spansStale = true;
        foundStale = true;
        mendStale = true;
    }

    private Run freshRun() {
        if (runStale) {
            theRun.take(texts[RUN]);
            runStale = false;
        }
        return theRun;
    }

    private Score freshScore() {
        if (scoreStale) {
            theScore.take(texts[SCORE]);
            scoreStale = false;
        }
        return theScore;
    }

    private Spans freshSpans() {
        if (spansStale) {
            spans.take(freshRun().bars, NONE);
            spans.settle(DEEPEST, null, NONE);
            spansStale = false;
        }
        return spans;
    }

    private Jumps freshFound() {
        if (foundStale) {
            Spans known = freshSpans();
            jumps.seek(known, depthNow);
            printer.print(known, jumps, depthNow);
            foundStale = false;
        }
        return jumps;
    }

    private Mending freshMending() {
        if (mendStale) {
            mending.seek(freshRun().bars, freshSpans(), depthNow);
            mendStale = false;
        }
        return mending;
    }

    /** Bytes as they were told, whatever they mean. */
    private static final class Text {
        final int[] bytes;
        int size = 0;

        Text(int most) {
            bytes = new int[Math.max(most, 0)];
        }

        boolean isFull() {
            return size >= bytes.length;
        }

        void add(int b) {
            if (!isFull()) {
                bytes[size] = b;
                size++;
            }
        }
    }

    /** A row of bars; a bar's code is its letter and, 256 times, its figure's byte, so like bars have like codes. */
    private static final class Bars {
        final int[] codes;
        int size = 0;

        Bars(int most) {
            codes = new int[Math.max(most, 0)];
        }

        void addLetter(int letter) {
            if (size < codes.length) {
                codes[size] = letter;
                size++;
            }
        }

        void addFigure(int figure) {
            if (size > 0) {
                codes[size - 1] += 256 * figure;
            }
        }
    }

    /** The run as bars. */
    private static final class Run {
        final Bars bars = new Bars(RUN_BYTES);
        final int[] numbers = new int[RUN_BYTES];
        int unlike = 0;
        int faultPlace = NONE;

        void take(Text text) {
            bars.size = 0;
            faultPlace = NONE;
            boolean figureMay = false;
            for (int place = 0; place < text.size && faultPlace == NONE; place++) {
                int b = text.bytes[place];
                if (isLetter(b)) {
                    bars.addLetter(b);
                    figureMay = true;
                } else if (isFigure(b) && figureMay) {
                    bars.addFigure(b);
                    figureMay = false;
                } else {
                    faultPlace = place;
                }
            }
            if (faultPlace != NONE) {
                bars.size = 0;
            }
            giveNumbers();
        }

        private void giveNumbers() {
            unlike = 0;
            for (int i = 0; i < bars.size; i++) {
                int earlier = 0;
                while (earlier < i && bars.codes[earlier] != bars.codes[i]) {
                    earlier++;
                }
                if (earlier < i) {
                    numbers[i] = numbers[earlier];
                } else {
                    numbers[i] = unlike;
                    unlike++;
                }
            }
        }
    }

    /** Which bytes may come next in a score. */
    private static final class Grammar {
        private static final int NO_ENDINGS = 0, SECOND = 1, THIRD = 2;
        private static final int BEGUN = 0, BEHIND_SIGN = 1, BEHIND_JUMP = 2, ENDED = 3;

        final int[] places = new int[DEEPEST];
        private final int[] endings = new int[DEEPEST];
        int open = 0;
        private int stage = BEGUN;
        private boolean partDue = true;
        private boolean figureMay = false;

        void restart() {
            open = 0;
            stage = BEGUN;
            partDue = true;
            figureMay = false;
        }

        /** 0, or the reason for which the byte may not come. */
        int reasonAgainst(int b) {
            if (!isLetter(b) && !isFigure(b) && !isSign(b)) {
                return STRANGE;
            }
            if (stage == ENDED) {
                return STRAY;
            }
            if (isLetter(b)) {
                return 0;
            }
            if (isFigure(b)) {
                return figureMay ? 0 : STRAY;
            }
            if (b == '[') {
                return open < DEEPEST ? 0 : DEEP;
            }
            if (partDue) {
                return EMPTY;
            }
            return fitsBehindPart(b) ? 0 : STRAY;
        }

        private static boolean isSign(int b) {
            return b == '[' || b == ':' || b == ';' || b == ']' || b == '%' || b == '!' || b == '$';
        }

        private boolean fitsBehindPart(int b) {
            if (open > 0 && open <= DEEPEST) {
                int ending = endings[open - 1];
                switch (b) {
                    case ':':
                        return ending == NO_ENDINGS;
                    case ';':
                        return ending == SECOND;
                    case ']':
                        return ending != SECOND;
                    default:
                        return false;
                }
            }
            switch (b) {
                case '%':
                    return stage == BEGUN;
                case '!':
                    return stage == BEGUN || stage == BEHIND_SIGN;
                case '$':
                    return stage == BEHIND_JUMP;
                default:
                    return false;
            }
        }

        /** Goes on with a byte that may come. */
        void accept(int b, int place) {
            figureMay = isLetter(b);
            partDue = b == '[' || b == ':' || b == ';' || b == '%' || b == '!';
            if (b == '[' && open < DEEPEST) {
                places[open] = place;
                endings[open] = NO_ENDINGS;
                open++;
            } else if (b == ']' && open > 0) {
                open--;
            } else if ((b == ':' || b == ';') && open > 0) {
                endings[open - 1] = b == ':' ? SECOND : THIRD;
            } else if (b == '%') {
                stage = BEHIND_SIGN;
            } else if (b == '!') {
                stage = BEHIND_JUMP;
            } else if (b == '$') {
                stage = ENDED;
            }
        }

        boolean mayEnd() {
            return open == 0 && !partDue && (stage == BEGUN || stage == ENDED);
        }
    }

    /** The printed bars as they are played: what comes again is played out as soon as its sign comes. */
    private static final class Player {
        final int[] order = new int[PLAYED];
        int size = 0;
        private final int[] starts = new int[DEEPEST];
        private final int[] firstEnds = new int[DEEPEST];
        private int open = 0;
        private int jumpStart = 0;
        private int jumpEnd = 0;

        void restart() {
            size = 0;
            open = 0;
            jumpStart = 0;
            jumpEnd = 0;
        }

        void playBar(int printed) {
            if (size < order.length) {
                order[size] = printed;
                size++;
            }
        }

        void obey(int sign) {
            int top = open - 1;
            boolean isWithin = top >= 0 && top < DEEPEST;
            if (sign == '[') {
                openRepeat();
            } else if (sign == ':' && isWithin) {
                firstEnds[top] = size;
            } else if (sign == ';' && isWithin) {
                playOnceMore(starts[top], firstEnds[top]);
            } else if (sign == ']' && isWithin) {
                if (firstEnds[top] == NONE) {
                    playOnceMore(starts[top], size);
                }
                open--;
            } else if (sign == '%') {
                jumpStart = size;
            } else if (sign == '!') {
                jumpEnd = size;
            } else if (sign == '$') {
                playOnceMore(jumpStart, jumpEnd);
            }
        }

        private void openRepeat() {
            if (open < DEEPEST) {
                starts[open] = size;
                firstEnds[open] = NONE;
                open++;
            }
        }

        private void playOnceMore(int from, int to) {
            if (from >= 0 && from <= to && to <= size && to - from <= order.length - size) {
                System.arraycopy(order, from, order, size, to - from);
                size += to - from;
            }
        }
    }

    /** The score: its fault, or what is printed and played. */
    private static final class Score {
        final Bars printed = new Bars(SCORE_BYTES);
        final Grammar grammar = new Grammar();
        final Player player = new Player();
        int signs = 0;
        int deepest = 0;
        int faultPlace = NONE;
        int faultReason = 0;

        void take(Text text) {
            becomeEmpty();
            grammar.restart();
            faultPlace = NONE;
            faultReason = 0;
            for (int place = 0; place < text.size && faultPlace == NONE; place++) {
                int reason = grammar.reasonAgainst(text.bytes[place]);
                if (reason == 0) {
                    accept(text.bytes[place], place);
                } else {
                    blame(place, reason);
                }
            }
            if (faultPlace == NONE && text.size > 0 && !grammar.mayEnd()) {
                blame(text.size, OPEN);
            }
            if (faultPlace != NONE) {
                becomeEmpty();
            }
        }

        int playedCode(int i) {
            if (i < 0 || i >= player.size) {
                return NONE;
            }
            int bar = player.order[i];
            return bar >= 0 && bar < printed.size ? printed.codes[bar] : NONE;
        }

        // The grammar stays as it is: it tells within which [ the fault is.
        private void becomeEmpty() {
            printed.size = 0;
            player.restart();
            signs = 0;
            deepest = 0;
        }

        private void blame(int place, int reason) {
            faultPlace = place;
            faultReason = reason;
        }

        private void accept(int b, int place) {
            grammar.accept(b, place);
            deepest = Math.max(deepest, grammar.open);
            if (isLetter(b)) {
                player.playBar(printed.size);
                printed.addLetter(b);
            } else if (isFigure(b)) {
                printed.addFigure(b);
            } else {
                signs++;
                player.obey(b);
            }
        }
    }

    /** Of every span of some bars what its best costs, for every depth: bars and signs as one number. */
    private static final class Spans {
        // A sign costs 1: no span has so many signs that they would outweigh a bar.
        static final int ONE_BAR = 256;
        private static final int REPEAT_SIGNS = 2, ENDINGS_SIGNS = 4;
        static final int SIDE = RUN_BYTES + 1;
        private static final int LAYER = SIDE * SIDE;

        final int[] codes = new int[RUN_BYTES];
        int size = 0;
        private final int[] alikes = new int[LAYER];
        private final int[] costs = new int[(DEEPEST + 1) * LAYER];

        /** Takes the bars, but for one of them (NONE: takes all). */
        void take(Bars bars, int without) {
            size = 0;
            for (int k = 0; k < bars.size; k++) {
                if (k != without && size < codes.length) {
                    codes[size] = bars.codes[k];
                    size++;
                }
            }
            for (int i = size; i >= 0; i--) {
                for (int j = size; j >= 0; j--) {
                    boolean like = i < size && j < size && codes[i] == codes[j];
                    alikes[i * SIDE + j] = like ? 1 + alikes[(i + 1) * SIDE + j + 1] : 0;
                }
            }
        }

        /** If these are what is left of a settled whole without a bar, spans that this bar is not within cost what they did. */
        void settle(int deepest, Spans whole, int missing) {
            int layers = Math.min(deepest, DEEPEST);
            for (int length = 1; length <= size; length++) {
                for (int i = 0; i + length <= size; i++) {
                    int j = i + length;
                    int moved = i >= missing ? 1 : 0;
                    boolean known = whole != null && (i >= missing || j <= missing);
                    for (int depth = 0; depth <= layers; depth++) {
                        costs[depth * LAYER + i * SIDE + j] =
                            known ? whole.cost(depth, i + moved, j + moved) : cheapest(depth, i, j);
                    }
                }
            }
        }

        boolean has(int i) {
            return i >= 0 && i <= size;
        }

        /** 0 behind the bars, too. */
        int alikeFrom(int i, int j) {
            return has(i) && has(j) ? alikes[i * SIDE + j] : 0;
        }

        /** 0 of an empty span. */
        int cost(int depth, int i, int j) {
            if (!isDepth(depth) || !has(i) || !has(j) || j <= i) {
                return 0;
            }
            return costs[depth * LAYER + i * SIDE + j];
        }

        /** Where the shortest first part ends, if the best is two parts; or NONE. */
        int cut(int depth, int i, int j) {
            int due = cost(depth, i, j);
            for (int k = i + 1; k < j; k++) {
                if (cost(depth, i, k) + cost(depth, k, j) == due) {
                    return k;
                }
            }
            return NONE;
        }

        boolean isRepeat(int depth, int i, int j) {
            int half = (j - i) / 2;
            return mayRepeat(depth, i, j)
                && cost(depth - 1, i, i + half) + REPEAT_SIGNS == cost(depth, i, j);
        }

        /** The shortest first, then the shortest second, if the best has two endings: SIDE times the one and the other; or NONE. */
        int endings(int depth, int i, int j) {
            if (!isDepth(depth - 1) || !isDepth(depth) || !has(i) || !has(j)) {
                return NONE;
            }
            int due = costs[depth * LAYER + i * SIDE + j];
            for (int length = 1; 2 * length + 2 <= j - i; length++) {
                for (int second = 1; 2 * length + second + 1 <= j - i; second++) {
                    int back = i + length + second;
                    if (alikes[i * SIDE + back] >= length && endingsCost(depth, i, j, length, back) == due) {
                        return length * SIDE + second;
                    }
                }
            }
            return NONE;
        }

        private boolean mayRepeat(int depth, int i, int j) {
            int half = (j - i) / 2;
            return depth > 0 && half > 0 && 2 * half == j - i && alikes[i * SIDE + i + half] >= half;
        }

        private int cheapest(int depth, int i, int j) {
            int best = (j - i) * ONE_BAR;
            // Without repeats every bar is printed.
            if (depth < 1 || j - i == 1) {
                return best;
            }
            int base = depth * LAYER;
            for (int k = i + 1; k < j; k++) {
                int cost = costs[base + i * SIDE + k] + costs[base + k * SIDE + j];
                if (cost < best) {
                    best = cost;
                }
            }
            if (mayRepeat(depth, i, j)) {
                best = Math.min(best, costs[base - LAYER + i * SIDE + (i + j) / 2] + REPEAT_SIGNS);
            }
            return Math.min(best, cheapestEndings(depth, i, j));
        }

        // Going by where the first comes again leaves out at once all that is not alike there.
        private int cheapestEndings(int depth, int i, int j) {
            int best = (j - i) * ONE_BAR;
            for (int back = i + 2; back < j - 1; back++) {
                int room = Math.min(back - i - 1, j - back - 1);
                int longest = Math.min(room, alikes[i * SIDE + back]);
                for (int length = 1; length <= longest; length++) {
                    int cost = endingsCost(depth, i, j, length, back);
                    if (cost < best) {
                        best = cost;
                    }
                }
            }
            return best;
        }

        private int endingsCost(int depth, int i, int j, int length, int back) {
            int base = (depth - 1) * LAYER;
            return costs[base + i * SIDE + i + length]
                + costs[base + (i + length) * SIDE + back]
                + costs[base + (back + length) * SIDE + j]
                + ENDINGS_SIGNS;
        }
    }

    /** The cheapest way to print all of some bars, jumps too. */
    private static final class Jumps {
        static final int PLAIN = 0, FROM_BEGINNING = 1, FROM_SIGN = 2;
        private static final int BEGINNING_SIGNS = 2, SIGN_SIGNS = 3;

        int cost = 0;
        int kind = PLAIN;
        int first = 0;
        int second = 0;

        void seek(Spans spans, int depth) {
            int all = spans.size;
            cost = spans.cost(depth, 0, all);
            kind = PLAIN;
            first = 0;
            second = 0;
            for (int a = 1; 2 * a + 1 <= all; a++) {
                if (spans.alikeFrom(0, all - a) >= a) {
                    int parts = spans.cost(depth, 0, a) + spans.cost(depth, a, all - a);
                    offer(parts + BEGINNING_SIGNS, FROM_BEGINNING, a, 0);
                }
            }
            for (int a = 1; a + 3 <= all; a++) {
                seekFromSign(spans, depth, a);
            }
        }

        private void seekFromSign(Spans spans, int depth, int a) {
            int all = spans.size;
            for (int b = 1; a + 2 * b + 1 <= all; b++) {
                if (spans.alikeFrom(a, all - b) >= b) {
                    int parts = spans.cost(depth, 0, a) + spans.cost(depth, a, a + b)
                        + spans.cost(depth, a + b, all - b);
                    offer(parts + SIGN_SIGNS, FROM_SIGN, a, b);
                }
            }
        }

        // Of like ones the earliest offer stays.
        private void offer(int otherCost, int otherKind, int a, int b) {
            if (otherCost < cost) {
                cost = otherCost;
                kind = otherKind;
                first = a;
                second = b;
            }
        }
    }

    /** The bytes of the score that is found. */
    private static final class Printer {
        final int[] bytes = new int[SHOWN];
        int size = 0;

        void print(Spans spans, Jumps jumps, int depth) {
            size = 0;
            int all = spans.size;
            int a = jumps.first;
            int b = jumps.second;
            if (jumps.kind == Jumps.PLAIN) {
                printSpan(spans, depth, 0, all, 0);
                return;
            }
            printSpan(spans, depth, 0, a, 0);
            if (jumps.kind == Jumps.FROM_SIGN) {
                put('%');
                printSpan(spans, depth, a, a + b, 0);
                put('!');
                printSpan(spans, depth, a + b, all - b, 0);
            } else {
                put('!');
                printSpan(spans, depth, a, all - a, 0);
            }
            put('$');
        }

        // Each level has a shorter span than the one above, so there are never more than the run has bytes.
        private void printSpan(Spans spans, int depth, int i, int j, int level) {
            if (level > RUN_BYTES || j <= i) {
                return;
            }
            if (j - i == 1) {
                printBar(spans, i);
                return;
            }
            int cut = spans.cut(depth, i, j);
            if (cut != NONE) {
                printSpan(spans, depth, i, cut, level + 1);
                printSpan(spans, depth, cut, j, level + 1);
            } else if (spans.isRepeat(depth, i, j)) {
                put('[');
                printSpan(spans, depth - 1, i, (i + j) / 2, level + 1);
                put(']');
            } else {
                printEndings(spans, depth, i, j, level);
            }
        }

        private void printEndings(Spans spans, int depth, int i, int j, int level) {
            int endings = spans.endings(depth, i, j);
            if (endings == NONE) {
                return;
            }
            int length = endings / Spans.SIDE;
            int second = endings % Spans.SIDE;
            int back = i + length + second;
            put('[');
            printSpan(spans, depth - 1, i, i + length, level + 1);
            put(':');
            printSpan(spans, depth - 1, i + length, back, level + 1);
            put(';');
            printSpan(spans, depth - 1, back + length, j, level + 1);
            put(']');
        }

        private void printBar(Spans spans, int i) {
            if (i < 0 || i >= spans.size) {
                return;
            }
            put(spans.codes[i] % 256);
            if (spans.codes[i] >= 256) {
                put(spans.codes[i] / 256);
            }
        }

        private void put(int b) {
            if (size < bytes.length) {
                bytes[size] = b;
                size++;
            }
        }
    }

    /** Which bar had better not be. */
    private static final class Mending {
        private final Spans rest = new Spans();
        private final Jumps best = new Jumps();
        int which = NONE;
        int cost = 0;

        void seek(Bars bars, Spans whole, int depth) {
            which = NONE;
            cost = 0;
            for (int k = 0; k < bars.size; k++) {
                // Without a bar like the one ahead of it the run is the same as without that one.
                if (k > 0 && bars.codes[k] == bars.codes[k - 1]) {
                    continue;
                }
                rest.take(bars, k);
                rest.settle(depth, whole, k);
                best.seek(rest, depth);
                if (which == NONE || best.cost < cost) {
                    which = k;
                    cost = best.cost;
                }
            }
        }
    }

    /** A row of items of a form, or none. */
    private static final class Sheet {
        private static final int BYTES = 0, SHORTS = 1;

        final int[] items = new int[ITEMS];
        boolean lost = true;
        int form = 0;
        int size = 0;

        void renew(int newForm, int newSize) {
            for (int i = 0; i < items.length; i++) {
                items[i] = 0;
            }
            lost = false;
            form = newForm;
            size = Math.max(0, Math.min(newSize, items.length));
        }

        /** Whether there are so many items from one on; compared so that no sum can wrap. */
        boolean holds(int i, int many) {
            return i >= 0 && many >= 0 && i <= size && many <= size - i;
        }

        void put(int i, int v) {
            if (!holds(i, 1)) {
                return;
            }
            if (form == BYTES) {
                items[i] = (byte) v;
            } else if (form == SHORTS) {
                items[i] = (short) v;
            } else {
                items[i] = v;
            }
        }
    }
}
