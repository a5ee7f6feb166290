/** Promises 33 to 36: ACTS, THE TRACE, PAIRS taken for a KIND, counts. */
public final class ActsTest {
    private static final Check check = new Check();
    private static final int V = 5;

    public static void main(String[] args) {
        // PAIR i is of KIND i, and once all six are as told PAIR 0 is of KIND 6
        acts();
        wraps();
        refusals();
        promise35();
        promise36();
        check.end("ActsTest");
    }

    private static BootsStove six() {
        BootsStove x = new BootsStove();
        for (int kind = 0; kind < 6; kind++) {
            x.pair(kind, V, 40);
        }
        return x;
    }

    private static void runs(BootsStove x, int pair, int act, int with, int due, int... bodies) {
        String call = "33: KIND " + x.of(pair, 0) + " act " + act + " with " + with;
        check.due(call, x.act(pair, act, with), due);
        check.due(call + ", bodies", x.count(6), bodies.length);
        for (int i = 0; i < bodies.length; i++) {
            check.due(call + ", 34: body " + i, x.trace(i), bodies[i]);
        }
        check.due(call + ", 34: behind the last", x.trace(bodies.length), BootsStove.NONE);
        check.due(call + ", 34: -1", x.trace(-1), BootsStove.NONE);
        check.due(call + ", 34: MAX", x.trace(Integer.MAX_VALUE), BootsStove.NONE);
    }

    private static void acts() {
        BootsStove x = six();
        runs(x, 0, 0, 7, 7, 10);
        runs(x, 0, 1, 7, 7 - V, 11, 10);
        runs(x, 0, 2, 7, 2 * (7 - V), 12, 11, 10);
        runs(x, 1, 0, 7, 8, 10);
        runs(x, 1, 1, 7, 8 - V ^ 6, 20, 11, 10);
        runs(x, 1, 2, 7, 2 * (8 - V ^ 6), 12, 20, 11, 10);
        runs(x, 2, 0, 7, 23, 30, 10);
        runs(x, 2, 1, 7, 23 - V, 11, 30, 10);
        runs(x, 2, 2, 7, 2 * (23 - V), 12, 11, 30, 10);
        runs(x, 3, 0, 7, 10, 10);
        runs(x, 3, 1, 7, 10 - V, 11, 10);
        runs(x, 3, 2, 7, 2 * (10 - V) + 4 - V, 40, 12, 11, 10, 11, 10);
        runs(x, 4, 0, 7, -11, 50, 10);
        runs(x, 4, 1, 7, -12 - V ^ 6, 51, 20, 11, 50, 10);
        runs(x, 4, 2, 7, 2 * (-12 - V ^ 6), 12, 51, 20, 11, 50, 10);
        runs(x, 5, 0, 7, 26, 30, 10);
        runs(x, 5, 1, 7, 26 - V, 11, 30, 10);
        runs(x, 5, 2, 7, 2 * (3 * 2 + 5 - V), 60, 12, 11, 30, 10);

        BootsStove told = new BootsStove();
        told.pair(0, 0, 0);
        told.pair(6, V, 0);
        runs(told, 1, 0, 7, 8 ^ V, 71, 10);
        runs(told, 1, 0, 4, 0, 71, 10);
        runs(told, 1, 1, 7, (8 ^ V) - V + 3, 70, 11, 71, 10, 10);
        runs(told, 1, 2, 7, 2 * ((8 ^ V) - V + 3) + (2 ^ V) - V + 3, 40, 12, 70, 11, 71, 10, 10, 70, 11, 71, 10, 10);
        check.due("33: nothing changed", told.of(1, 2) + told.told(0), 0);
    }

    private static void wraps() {
        BootsStove x = six();
        int most = Integer.MAX_VALUE;
        runs(x, 1, 0, most, Integer.MIN_VALUE, 10);
        runs(x, 2, 0, most, most * 3 + 2, 30, 10);
        runs(x, 0, 2, most, 2 * (most - V), 12, 11, 10);
        runs(x, 4, 0, Integer.MIN_VALUE + 4, -(Integer.MIN_VALUE + 8), 50, 10);
        runs(x, 0, 1, Integer.MIN_VALUE, Integer.MIN_VALUE - V, 11, 10);
    }

    private static void refusals() {
        BootsStove x = six();
        check.due("34: none at first", x.trace(0), BootsStove.NONE);
        int[][] refused = {{6, 0}, {-1, 0}, {0, 3}, {0, -1}, {9, 9}};
        for (int[] call : refused) {
            x.act(2, 2, 1);
            check.due("34: there is one", x.trace(0), 12);
            check.due("33: no such PAIR, act", x.act(call[0], call[1], 1), 0);
            check.due("33: no TRACE then", x.trace(0), BootsStove.NONE);
            check.due("33: no bodies then", x.count(6), 0);
        }
    }

    private static void promise35() {
        BootsStove x = six();
        BootsStove told = new BootsStove();
        told.pair(6, 0, 0);
        boolean[][] is = {
            {true}, {true, true}, {true, false, true}, {true, false, false, true},
            {true, true, false, false, true}, {true, false, true, false, false, true},
            {true, false, false, true, false, false, true}};
        for (int kind = 0; kind <= 6; kind++) {
            for (int k = 0; k <= 6; k++) {
                boolean isOne = k < is[kind].length && is[kind][k];
                int got = kind == 6 ? told.taken(0, k) : x.taken(kind, k);
                check.due("35: KIND " + kind + " for " + k, got, isOne ? kind : -12);
            }
        }
        check.due("35: k 7", x.taken(0, 7), BootsStove.BAD);
        check.due("35: k -1", x.taken(0, -1), BootsStove.BAD);
        check.due("35: k is named first", x.taken(6, 7), BootsStove.BAD);
        check.due("35: no PAIR", x.taken(6, 6), -11);
        check.due("35: PAIR -1", x.taken(-1, 0), -11);
        check.due("35: no PAIR", told.taken(1, 0), -11);
    }

    private static void promise36() {
        BootsStove x = new BootsStove();
        for (int what = 0; what <= 6; what++) {
            check.due("36: none of " + what, x.count(what), 0);
        }
        x.pair(6, 0, 0);
        Check.hut(x, "log 1");
        Check.hut(x, "log 1");
        for (int n = 0; n < 7; n++) {
            if (n < 3) {
                x.see(0, 0, 0);
            }
            if (n < 4) {
                x.rota(0, 0);
            }
            if (n < 5) {
                x.book(0, 0);
            }
            x.feed(1);
        }
        x.act(0, 2, 0);
        int[] due = {1, 2, 3, 4, 5, 7, 12};
        for (int what = 0; what <= 6; what++) {
            check.due("36: of " + what, x.count(what), due[what]);
        }
        check.due("36: what 7", x.count(7), BootsStove.BAD);
        check.due("36: what -1", x.count(-1), BootsStove.BAD);
    }
}
