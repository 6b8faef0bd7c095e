/** A call told by its name and numbers, so that a wrong answer is told with the call as it was made. */
final class Calls {
    private Calls() {
    }

    static void due(ScoreForms x, int want, String call, int... a) {
        Check.due(told(call, a), act(x, call, a), want);
    }

    static String told(String call, int... a) {
        StringBuilder text = new StringBuilder(call).append('(');
        for (int i = 0; i < a.length; i++) {
            text.append(i == 0 ? "" : ", ").append(a[i]);
        }
        return text.append(')').toString();
    }

    /** Takes as many numbers as the call has; those behind them are left alone. */
    static int act(ScoreForms x, String call, int... a) {
        switch (call) {
            case "type": return x.type(a[0], a[1]);
            case "wipe": return x.wipe(a[0]);
            case "undo": return x.undo(a[0]);
            case "read": return x.read(a[0], a[1]);
            case "depth": return x.depth(a[0]);
            case "fault": return x.fault(a[0], a[1]);
            case "within": return x.within(a[0]);
            case "bar": return x.bar(a[0]);
            case "alike": return x.alike(a[0], a[1]);
            case "again": return x.again(a[0], a[1]);
            case "plays": return x.plays(a[0]);
            case "often": return x.often(a[0]);
            case "score": return x.score(a[0]);
            case "same": return x.same();
            case "first": return x.first();
            case "span": return x.span(a[0], a[1], a[2], a[3]);
            case "found": return x.found(a[0]);
            case "shown": return x.shown(a[0]);
            case "mend": return x.mend(a[0]);
            case "sheet": return x.sheet(a[0], a[1], a[2]);
            case "lose": return x.lose(a[0]);
            case "lay": return x.lay(a[0], a[1], a[2], a[3]);
            case "get": return x.get(a[0], a[1], a[2]);
            case "copy": return x.copy(a[0], a[1], a[2], a[3], a[4]);
            case "write": return x.write(a[0]);
            case "count": return x.count(a[0]);
            default: throw new IllegalArgumentException(call);
        }
    }
}
