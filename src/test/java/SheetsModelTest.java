import java.util.Random;

/** Sheets against Java's own arrays: each finding is what the machine itself says of such an act. */
public final class SheetsModelTest {
    private static final int[] EDGES = {Integer.MIN_VALUE, -1, 0, 1, 59, 60, 61, Integer.MAX_VALUE};
    private static final Object[] SHEETS = new Object[4];
    private static int latest = 0;

    public static void main(String[] args) {
        Random random = new Random(3);
        for (int round = 0; round < 600; round++) {
            ScoreForms x = new ScoreForms();
            java.util.Arrays.fill(SHEETS, null);
            latest = 0;
            for (int k = 0; k < 250; k++) {
                goOn(x, random);
                Check.due("count(8)", x.count(8), latest);
            }
        }
        Check.end();
    }

    private static void goOn(ScoreForms x, Random random) {
        int s = random.nextInt(20) == 0 ? (random.nextBoolean() ? 4 : -1) : random.nextInt(4);
        int t = random.nextInt(20) == 0 ? (random.nextBoolean() ? 4 : -1) : random.nextInt(4);
        int form = random.nextInt(20) == 0 ? (random.nextBoolean() ? 3 : -1) : random.nextInt(3);
        if (random.nextBoolean() && s >= 0 && s < 4 && SHEETS[s] != null) {
            form = formOf(SHEETS[s]);
        }
        int i = number(random);
        int j = number(random);
        int n = number(random);
        int v = random.nextInt();
        switch (random.nextInt(8)) {
            case 0:
                Check.due("sheet(" + s + ", " + form + ", " + n + ")", x.sheet(s, form, n), sheet(s, form, n));
                break;
            case 1:
                if (random.nextInt(3) == 0) {
                    Check.due("lose(" + s + ")", x.lose(s), lose(s));
                }
                break;
            case 2:
            case 3:
                Check.due("lay(" + s + ", " + form + ", " + i + ", " + v + ")", x.lay(s, form, i, v), lay(s, form, i, v));
                break;
            case 4:
            case 5:
                Check.due("get(" + s + ", " + form + ", " + i + ")", x.get(s, form, i), get(s, form, i));
                break;
            default:
                Check.due("copy(" + s + ", " + i + ", " + t + ", " + j + ", " + n + ")", x.copy(s, i, t, j, n),
                    copy(s, i, t, j, n));
                break;
        }
    }

    private static int number(Random random) {
        return random.nextInt(6) == 0 ? EDGES[random.nextInt(EDGES.length)] : random.nextInt(30);
    }

    private static boolean isSheet(int s) {
        return s >= 0 && s <= 3;
    }

    private static int formOf(Object row) {
        return row instanceof byte[] ? 0 : row instanceof short[] ? 1 : 2;
    }

    private static int found(int number) {
        latest = number;
        return -10 - number;
    }

    private static int sheet(int s, int form, int n) {
        if (!isSheet(s) || form < 0 || form > 2 || n > 60) {
            return -2;
        }
        try {
            SHEETS[s] = form == 0 ? new byte[n] : form == 1 ? new short[n] : new int[n];
            return n;
        } catch (NegativeArraySizeException e) {
            return found(5);
        }
    }

    private static int lose(int s) {
        if (!isSheet(s)) {
            return -2;
        }
        if (SHEETS[s] == null) {
            return found(1);
        }
        int had = java.lang.reflect.Array.getLength(SHEETS[s]);
        SHEETS[s] = null;
        return had;
    }

    private static int lay(int s, int form, int i, int v) {
        if (!isSheet(s) || form < 0 || form > 2) {
            return -2;
        }
        try {
            if (form == 0) {
                ((byte[]) SHEETS[s])[i] = (byte) v;
            } else if (form == 1) {
                ((short[]) SHEETS[s])[i] = (short) v;
            } else {
                ((int[]) SHEETS[s])[i] = v;
            }
            return 1;
        } catch (RuntimeException e) {
            return found(numberOf(e));
        }
    }

    private static int get(int s, int form, int i) {
        if (!isSheet(s) || form < 0 || form > 2) {
            return Integer.MIN_VALUE;
        }
        try {
            return form == 0 ? ((byte[]) SHEETS[s])[i] : form == 1 ? ((short[]) SHEETS[s])[i] : ((int[]) SHEETS[s])[i];
        } catch (RuntimeException e) {
            found(numberOf(e));
            return Integer.MIN_VALUE;
        }
    }

    private static int copy(int s, int i, int t, int j, int n) {
        if (!isSheet(s) || !isSheet(t)) {
            return -2;
        }
        try {
            System.arraycopy(SHEETS[s], i, SHEETS[t], j, n);
            return 1;
        } catch (RuntimeException e) {
            return found(numberOf(e));
        }
    }

    private static int numberOf(RuntimeException e) {
        if (e instanceof NullPointerException) {
            return 1;
        }
        if (e instanceof IndexOutOfBoundsException) {
            return 2;
        }
        return e instanceof ClassCastException ? 3 : 4;
    }
}
