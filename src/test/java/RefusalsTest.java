import java.util.Random;

/**
 * Any arguments in any state: no call throws, and a refusal changes nothing. One object gets every call, another
 * only those that the first did not refuse; both must answer alike ever after.
 */
public final class RefusalsTest {
    private static final int[] EDGES = {Integer.MIN_VALUE, Integer.MIN_VALUE + 1, -61, -3, -2, -1, 0, 1, 2, 3, 4, 5, 23, 24,
        25, 39, 40, 41, 59, 60, 61, 'a', 'b', 255, 256, 639, 640, Integer.MAX_VALUE - 1, Integer.MAX_VALUE};
    private static final String[] ASKING = {"fault", "within", "bar", "alike", "again", "plays", "often", "score", "span",
        "found", "shown", "mend", "get", "count"};
    private static final String[] CHANGING = {"type", "wipe", "undo", "read", "depth", "sheet", "lose", "lay", "copy", "write"};
    private static final String BYTES = "aab1[]:;!$%";

    public static void main(String[] args) {
        Random random = new Random(5);
        for (int round = 0; round < 1500; round++) {
            ScoreForms all = new ScoreForms();
            ScoreForms accepted = new ScoreForms();
            for (int k = 0; k < 60; k++) {
                goOn(all, accepted, random);
                if (k % 10 == 9) {
                    Check.due("digest", all.digest(), accepted.digest());
                }
            }
            compareSheets(all, accepted);
        }
        Check.end();
    }

    private static void goOn(ScoreForms all, ScoreForms accepted, Random random) {
        int[] a = new int[5];
        for (int i = 0; i < a.length; i++) {
            a[i] = random.nextInt(3) == 0 ? EDGES[random.nextInt(EDGES.length)] : random.nextInt(6) - 1;
        }
        int kind = random.nextInt(8);
        if (kind == 0) {
            Calls.act(all, ASKING[random.nextInt(ASKING.length)], a);
            return;
        }
        String call = kind < 4 ? CHANGING[random.nextInt(CHANGING.length)] : "type";
        if (kind >= 4) {
            a[0] = random.nextInt(2);
            a[1] = BYTES.charAt(random.nextInt(a[0] == 0 && random.nextInt(8) > 0 ? 4 : BYTES.length()));
        }
        int finding = all.count(8);
        int answer = Calls.act(all, call, a);
        Check.due(call + ": count(8)", all.count(8), answer <= -11 ? -10 - answer : finding);
        if (answer >= 0) {
            Check.due(call, Calls.act(accepted, call, a), answer);
        }
    }

    private static void compareSheets(ScoreForms all, ScoreForms accepted) {
        // The second object had none of the first one's findings: from here on both have the same.
        Check.due("sheet", all.sheet(0, 0, -1), accepted.sheet(0, 0, -1));
        for (int s = 0; s < 4; s++) {
            compareItems(all, accepted, s);
            Check.due("lose", all.lose(s), accepted.lose(s));
        }
    }

    private static void compareItems(ScoreForms all, ScoreForms accepted, int s) {
        for (int form = 0; form < 3; form++) {
            int answer = all.lay(s, form, -1, 0);
            Check.due("lay", accepted.lay(s, form, -1, 0), answer);
            // Only a sheet that is there and of this form finds no such item; so both stay within their 512 calls.
            for (int i = 0; answer == -12 && i < 60; i++) {
                Check.due("get", all.get(s, form, i), accepted.get(s, form, i));
            }
        }
    }
}
