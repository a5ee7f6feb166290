/** "Terms" 2 and 3, sentence by sentence: ACTS, THE TRACE, THE IMAGE, TAPES, what is JUDGED, the host's refusals. */
public final class EdgesOfTapesTest {
    private static final Check check = new Check();
    private static final int NONE = BootsStove.NONE, BAD = BootsStove.BAD, STATE = BootsStove.STATE;
    private static final int NOTHING = -11, CAST = -12, PLACE = -13, SIZE = -14;
    private static final long NO = BootsStove.NO;
    private static final int MAX = Integer.MAX_VALUE, MIN = Integer.MIN_VALUE;

    public static void main(String[] args) {
        wraps();
        noSuchAct();
        trace();
        takenFor();
        imageNone();
        imageAgain();
        imageHolds();
        tapesAtFirst();
        tapeSizes();
        tapeNothing();
        itemBits();
        itemPlaces();
        shiftEnds();
        shiftSame();
        shiftSorts();
        judged();
        judgedEnds();
        judgedFrom();
        judgedNothing();
        counts();
        check.end("EdgesOfTapesTest");
    }

    private static BootsStove of(int kind, int number, int v) {
        BootsStove x = new BootsStove();
        for (int b = 0; b < number; b++) {
            x.pair(0, 0, 0);
        }
        x.pair(kind, v, 0);
        return x;
    }

    private static void wraps() {
        check.sentence("ACTS of a PAIR with x (wrapping)");
        check.due("x + i is MAX", of(0, 5, 0).act(5, 0, MAX - 5), MAX);
        check.due("x + i, 1 more", of(0, 5, 0).act(5, 0, MAX - 4), MIN);
        check.due("MIN", of(0, 5, 0).act(5, 0, MIN), MIN + 5);
        check.due("drips(x) - v is MIN", of(0, 0, 9).act(0, 1, MIN + 9), MIN);
        check.due("drips(x) - v, 1 less", of(0, 0, 9).act(0, 1, MIN + 8), MAX);
        check.due("steams(x) * 2 is MAX - 1", of(0, 0, 0).act(0, 2, MAX / 2), MAX - 1);
        check.due("steams(x) * 2, 1 more", of(0, 0, 0).act(0, 2, MAX / 2 + 1), MIN);
        check.due("steams(x) * 2 of MIN", of(0, 0, 0).act(0, 2, MIN), 0);
        check.due("x * 3 of FELT", of(2, 0, 0).act(0, 0, MAX), MAX - 2);
        check.due("x * 3 of SOCKS, MIN", of(5, 0, 0).act(0, 0, MIN), MIN);
        check.due("-super.drips(x) of MIN", of(4, 0, 0).act(0, 0, MIN), MIN);
        check.due("-super.drips(x) of MAX", of(4, 0, 0).act(0, 0, MAX), -MAX);
        // steams(MAX) is super.steams(MIN): drips(MIN) is MIN, ^ 6
        check.due("x + 1 of GUIDES", of(4, 0, 0).act(0, 1, MAX), MIN ^ 6);
        check.due("^ 6 of LEATHER below 0", of(1, 0, 0).act(0, 1, -1), -7);
        check.due("x - i of SOCKS", of(5, 1, 0).act(1, 2, MIN), 2 * (MAX * 3 + 1));
        check.due("^ v of TOLD below 0", of(6, 0, 9).act(0, 0, -1), -1 ^ 9);
        // drips(MAX) is MAX, less 0, and super.drips(2)
        check.due("super.steams(x) + super.drips(2) of TOLD", of(6, 0, 0).act(0, 1, MAX), MIN + 1);
        // MAX - 1 and 1; MAX - 1 and 2
        check.due("super.tells(x) + steams(1) of STUFFED is MAX", of(3, 0, 0).act(0, 2, MAX / 2), MAX);
        check.due("super.tells(x) + steams(1) of STUFFED, 1 more", of(3, 1, 0).act(1, 2, MAX / 2 - 1), MIN);
    }

    private static void noSuchAct() {
        check.sentence("0, and no TRACE then: no such PAIR, act.");
        BootsStove x = of(0, 1, 0);
        int[][] refused = {{-1, 0}, {2, 0}, {6, 0}, {0, -1}, {0, 3}, {MIN, 0}, {MAX, 0}, {0, MIN}, {0, MAX}, {2, 3}};
        for (int[] call : refused) {
            check.due("one that is", x.act(1, 2, 7), 16);
            check.due("its TRACE", x.trace(0), 12);
            check.due("its bodies", x.count(6), 3);
            check.due("none: " + call[0] + " " + call[1], x.act(call[0], call[1], 7), 0);
            check.due("no TRACE", x.trace(0), NONE);
            check.due("no bodies", x.count(6), 0);
        }
        check.due("there are no PAIRS", new BootsStove().act(0, 0, 7), 0);
    }

    private static void trace() {
        check.sentence("THE TRACE: the numbers of the bodies that ran in the latest act(), as they began; the first 20 are kept.");
        BootsStove x = of(6, 0, 3);
        check.due("none at first", x.trace(0), NONE);
        check.due("none at first", x.count(6), 0);
        x.act(0, 2, 5);
        // no act runs more than these twelve
        int[] most = {40, 12, 70, 11, 71, 10, 10, 70, 11, 71, 10, 10};
        check.due("twelve", x.count(6), 12);
        for (int i = 0; i < 12; i++) {
            check.due("body " + i, x.trace(i), most[i]);
        }
        for (int i : new int[] {-1, 12, 13, 19, 20, 21, MIN, MAX}) {
            check.due("body " + i, x.trace(i), NONE);
        }
        x.act(0, 0, 5);
        check.due("the latest act alone", x.count(6), 2);
        check.due("its first", x.trace(0), 71);
        check.due("its last", x.trace(1), 10);
        check.due("no more of the one before", x.trace(2), NONE);
        x.image();
        x.pass(1);
        x.undo();
        check.due("it is no part of THE IMAGE", x.count(6), 2);
    }

    private static void takenFor() {
        check.sentence("A PAIR taken for one of KIND k (0 .. 6), or one under that: its KIND. BAD: k; NOTHING: no such PAIR; CAST.");
        int[] above = {-1, 0, 0, 0, 1, 2, 3};
        for (int kind = 0; kind <= 6; kind++) {
            BootsStove x = of(kind, 0, 0);
            for (int k = 0; k <= 6; k++) {
                boolean is = k == kind || k == 0 || k == above[kind];
                check.due(kind + " for " + k, x.taken(0, k), is ? kind : CAST);
            }
            check.due("k -1", x.taken(0, -1), BAD);
            check.due("k 7", x.taken(0, 7), BAD);
            check.due("PAIR 1", x.taken(1, kind), NOTHING);
            check.due("PAIR -1", x.taken(-1, kind), NOTHING);
            check.due("BAD ahead of NOTHING", x.taken(1, 7), BAD);
        }
    }

    private static void imageNone() {
        check.sentence("All is as THE IMAGE: how many PAIRS. STATE: there is none.");
        BootsStove x = new BootsStove();
        check.due("none", x.undo(), STATE);
        x.pair(0, 0, 7);
        check.due("none", x.undo(), STATE);
        check.due("the PAIR stays", x.count(0), 1);
        check.due("of one", x.image(), 1);
        check.due("there is one", x.undo(), 1);
        BootsStove y = new BootsStove();
        check.due("of none", y.image(), 0);
        y.pair(0, 0, 7);
        check.due("none then", y.undo(), 0);
        check.due("none then", y.count(0), 0);
        for (int b = 0; b < 6; b++) {
            y.pair(b, b, b);
        }
        check.due("of six", y.image(), 6);
        check.due("six then", y.undo(), 6);
        check.due("a seventh", y.pair(0, 0, 0), BootsStove.FULL);
    }

    private static void imageAgain() {
        check.sentence("THE IMAGE is taken");
        BootsStove x = of(0, 0, 0);
        x.wet(0, 10);
        x.image();
        x.wet(0, 20);
        x.image();
        x.wet(0, 30);
        check.due("the latest", x.undo() + 10 * x.of(0, 2), 201);
        x.wet(0, 40);
        check.due("it stays", x.undo() + 10 * x.of(0, 2), 201);
        x.undo();
        check.due("undone twice", x.of(0, 2), 20);
    }

    private static void imageHolds() {
        check.sentence("THE IMAGE: PAIRS with all that is theirs, HEAT, WOOD, HOUR, SEEN, the ROTA, the BOOK, which HUT holds.");
        BootsStove x = of(6, 0, 3);
        x.image();
        Check.hut(x, "cool 4;log 5");
        check.due("HUT 0 holds", x.told(3) * 10 + x.told(4), 45);
        x.undo();
        check.due("none holds", x.told(3) * 10 + x.told(4), 16);
        check.due("but there is one", x.count(1), 1);
        Check.hut(x, "cool 7;log 8");
        x.image();
        Check.hut(x, "cool 9;log 9");
        x.undo();
        check.due("HUT 1 holds", x.told(3) * 10 + x.told(4), 78);
        check.due("a FAULT: HUT 1 holds", Check.hut(x, "cool 9;log 9;"), -23);
        check.due("HUT 1 holds", x.told(3) * 10 + x.told(4), 78);
        for (int n = 3; n < 6; n++) {
            check.due("the next HUT", Check.hut(x, "log 1"), n);
            x.undo();
        }
        check.due("there are six, though none of them holds", Check.hut(x, "log 1"), BootsStove.FULL);
        check.due("THE TEXT stays", x.undo() * 10 + x.count(5), 15);

        BootsStove y = of(6, 0, 3);
        Check.hut(y, "cool 0");
        for (int n = 0; n < 166; n++) {
            y.pass(60);
        }
        y.image();
        y.pass(39);
        check.due("no HOUR more", y.pass(1), STATE);
        y.undo();
        check.due("HOUR", y.pass(39), 9999);
    }

    private static void tapesAtFirst() {
        check.sentence("TAPES 0 .. 5 hold nothing (at first)");
        BootsStove x = new BootsStove();
        for (int tape = 0; tape < 6; tape++) {
            check.due("nothing in " + tape, x.item(tape, 0, 1), NOTHING);
            check.due("nothing in " + tape, x.read(tape, 0), NO);
            check.due("nothing in " + tape, x.shift(tape, 0, tape, 0, 0), NOTHING);
        }
        for (int tape : new int[] {-1, 6, MIN, MAX}) {
            check.due("TAPE " + tape, x.tape(tape, 0, 1), NONE);
            check.due("TAPE " + tape, x.item(tape, 0, 1), NONE);
            check.due("TAPE " + tape, x.read(tape, 0), NO);
            check.due("TAPE " + tape, x.judge(tape, 0), NONE);
            check.due("TAPE " + tape, x.shift(tape, 0, 0, 0, 0), NONE);
            check.due("TAPE " + tape, x.shift(0, 0, tape, 0, 0), NONE);
        }
        for (int tape = 0; tape < 6; tape++) {
            check.due("a row in " + tape, x.tape(tape, 3, 1), 1);
            check.due("its item", x.item(tape, 0, 70 + tape), 1);
        }
        for (int tape = 0; tape < 6; tape++) {
            check.due("each has its own", x.read(tape, 0), 70 + tape);
        }
    }

    private static void tapeSizes() {
        check.sentence("A TAPE becomes a row of n (0 .. 60) of a sort, all 0");
        for (int sort = 0; sort <= 4; sort++) {
            BootsStove x = new BootsStove();
            for (int n : new int[] {60, 59, 1, 0, 60}) {
                check.due("n " + n + " of sort " + sort, x.tape(0, sort, n), 1);
                check.due("none behind its end", x.read(0, n), NO);
                check.due("none behind its end", x.item(0, n, 1), PLACE);
                for (int i = 0; i < n; i++) {
                    check.due("all 0", x.read(0, i), 0);
                }
                if (n > 0) {
                    check.due("its first", x.item(0, 0, 1), 1);
                    check.due("its last", x.item(0, n - 1, 1), 1);
                    check.due("its last", x.read(0, n - 1), 1);
                }
            }
            check.due("61", x.tape(0, sort, 61), BAD);
            check.due("-1", x.tape(0, sort, -1), SIZE);
            check.due("it stays", x.read(0, 59), 1);
        }
        BootsStove x = new BootsStove();
        check.due("sort 5", x.tape(0, 5, 1), BAD);
        check.due("sort -2", x.tape(0, -2, 1), BAD);
        check.due("sort 5, below 0", x.tape(0, 5, -1), BAD);
        check.due("sort -2, below 0", x.tape(0, -2, -1), BAD);
        check.due("nothing still", x.item(0, 0, 1), NOTHING);
    }

    private static void tapeNothing() {
        check.sentence("or holds nothing (sort -1: n does not matter): 1.");
        BootsStove x = new BootsStove();
        for (int n : new int[] {0, 1, -1, 60, 61, MIN, MAX}) {
            x.tape(0, 0, 1);
            check.due("n " + n, x.tape(0, -1, n), 1);
            check.due("nothing", x.item(0, 0, 1), NOTHING);
            check.due("nothing", x.read(0, 0), NO);
        }
        check.due("nothing again", x.tape(0, -1, 0), 1);
        check.due("no such TAPE", x.tape(6, -1, 0), NONE);
    }

    private static void itemBits() {
        check.sentence("Item i of a TAPE becomes v (its lowest bits, as many as an item has; booleans: whether v is not 0): 1.");
        long[][] rows = {
            {0, 127, 127}, {0, 128, -128}, {0, -128, -128}, {0, -129, 127}, {0, 255, -1}, {0, 256, 0}, {0, Long.MIN_VALUE, 0}, {0, Long.MAX_VALUE, -1},
            {1, 32767, 32767}, {1, 32768, -32768}, {1, -32768, -32768}, {1, -32769, 32767}, {1, 65535, -1}, {1, 65536, 0},
            {1, Long.MIN_VALUE, 0}, {1, Long.MAX_VALUE, -1},
            {2, MAX, MAX}, {2, MAX + 1L, MIN}, {2, MIN, MIN}, {2, MIN - 1L, MAX}, {2, 0xffff_ffffL, -1}, {2, 0x1_0000_0000L, 0},
            {2, Long.MIN_VALUE, 0}, {2, Long.MAX_VALUE, -1},
            {3, Long.MAX_VALUE, Long.MAX_VALUE}, {3, Long.MIN_VALUE, Long.MIN_VALUE}, {3, -1, -1}, {3, 0, 0},
            {4, 0, 0}, {4, 1, 1}, {4, -1, 1}, {4, 2, 1}, {4, 256, 1}, {4, 0x1_0000_0000L, 1}, {4, Long.MIN_VALUE, 1}, {4, Long.MAX_VALUE, 1}};
        BootsStove x = new BootsStove();
        for (int sort = 0; sort <= 4; sort++) {
            x.tape(sort, sort, 3);
        }
        for (long[] row : rows) {
            int tape = (int) row[0];
            check.due(row[1] + " in sort " + tape, x.item(tape, 1, row[1]), 1);
            check.due(row[1] + " in sort " + tape, x.read(tape, 1), row[2]);
        }
        for (int sort = 0; sort <= 4; sort++) {
            check.due("the one ahead is 0", x.read(sort, 0), 0);
            check.due("the one behind is 0", x.read(sort, 2), 0);
        }
    }

    private static void itemPlaces() {
        check.sentence("PLACE (-13): no such place");
        BootsStove x = new BootsStove();
        x.tape(0, 2, 60);
        x.tape(1, 2, 1);
        x.tape(2, 2, 0);
        check.due("the first", x.item(0, 0, 5), 1);
        check.due("the last", x.item(0, 59, 6), 1);
        check.due("behind it", x.item(0, 60, 7), PLACE);
        check.due("ahead of it", x.item(0, -1, 7), PLACE);
        check.due("the one", x.item(1, 0, 8), 1);
        check.due("behind it", x.item(1, 1, 7), PLACE);
        check.due("of none", x.item(2, 0, 7), PLACE);
        check.sentence("NO: no such TAPE, nothing there, no such place.");
        check.due("the first", x.read(0, 0), 5);
        check.due("the last", x.read(0, 59), 6);
        check.due("behind it", x.read(0, 60), NO);
        check.due("ahead of it", x.read(0, -1), NO);
        check.due("the one", x.read(1, 0), 8);
        check.due("behind it", x.read(1, 1), NO);
        check.due("of none", x.read(2, 0), NO);
        check.due("nothing there", x.read(3, 0), NO);
        check.due("no such TAPE", x.read(6, 0), NO);
    }

    private static void shiftEnds() {
        check.sentence("PLACE: n, i or j is below 0, or beyond either's end.");
        // 5 items and 3, each from and to: all n that fit, all that do not
        for (int i = -1; i <= 6; i++) {
            for (int j = -1; j <= 4; j++) {
                for (int n = -1; n <= 6; n++) {
                    BootsStove x = new BootsStove();
                    x.tape(0, 2, 5);
                    x.tape(1, 2, 3);
                    for (int k = 0; k < 5; k++) {
                        x.item(0, k, k + 1);
                    }
                    boolean fits = n >= 0 && i >= 0 && j >= 0 && i + n <= 5 && j + n <= 3;
                    check.due(n + " from " + i + " to " + j, x.shift(0, i, 1, j, n), fits ? n : PLACE);
                    for (int k = 0; k < 3; k++) {
                        boolean isNew = fits && k >= j && k < j + n;
                        check.due("item " + k + " behind " + n + " from " + i + " to " + j, x.read(1, k), isNew ? i + k - j + 1 : 0);
                    }
                    check.due(n + " from " + j + " to " + i, x.shift(1, j, 0, i, n), fits ? n : PLACE);
                }
            }
        }
        BootsStove x = new BootsStove();
        x.tape(0, 0, 60);
        x.tape(1, 0, 60);
        check.due("all 60", x.shift(0, 0, 1, 0, 60), 60);
        check.due("61", x.shift(0, 0, 1, 0, 61), PLACE);
        check.due("the last", x.shift(0, 59, 1, 59, 1), 1);
        check.due("none at the end", x.shift(0, 60, 1, 60, 0), 0);
        check.due("none beyond the end", x.shift(0, 61, 1, 60, 0), PLACE);
        check.due("none beyond the end", x.shift(0, 60, 1, 61, 0), PLACE);
        int[][] far = {{MAX, 0, 1}, {0, MAX, 1}, {0, 0, MAX}, {MAX, 0, MAX}, {0, MAX, MAX}, {MAX, MAX, MAX}, {1, 0, MAX}, {MIN, 0, 0}, {0, MIN, 0},
            {0, 0, MIN}, {MIN, MIN, MIN}, {MAX, 0, 0}, {0, MAX, 0}};
        for (int[] f : far) {
            check.due(f[2] + " from " + f[0] + " to " + f[1], x.shift(0, f[0], 1, f[1], f[2]), PLACE);
        }
    }

    private static void shiftSame() {
        check.sentence("come to another one (or the same) from j on, as they all were before: n.");
        for (int sort = 0; sort <= 4; sort++) {
            for (int i = 0; i <= 5; i++) {
                for (int j = 0; j <= 5; j++) {
                    int n = 5 - Math.max(i, j);
                    BootsStove x = new BootsStove();
                    x.tape(0, sort, 5);
                    long[] due = new long[5];
                    for (int k = 0; k < 5; k++) {
                        due[k] = sort == 4 ? k % 2 : k + 1;
                        x.item(0, k, due[k]);
                    }
                    System.arraycopy(due, i, due, j, n);
                    check.due("sort " + sort + " from " + i + " to " + j, x.shift(0, i, 0, j, n), n);
                    for (int k = 0; k < 5; k++) {
                        check.due("sort " + sort + " from " + i + " to " + j + ", item " + k, x.read(0, k), due[k]);
                    }
                }
            }
        }
    }

    private static void shiftSorts() {
        check.sentence("NONE: tapes; NOTHING; CAST: of unlike sorts");
        BootsStove x = new BootsStove();
        for (int sort = 0; sort <= 4; sort++) {
            x.tape(sort, sort, 2);
        }
        for (int from = 0; from < 6; from++) {
            for (int to = 0; to < 6; to++) {
                int due = from == 5 || to == 5 ? NOTHING : from == to ? 2 : CAST;
                check.due(from + " to " + to, x.shift(from, 0, to, 0, 2), due);
                check.due(from + " to " + to + " ahead of PLACE", x.shift(from, 0, to, 0, 3), due == 2 ? PLACE : due);
            }
        }
        check.due("rows of none, of unlike sorts", x.tape(0, 0, 0) + x.tape(1, 1, 0) + x.shift(0, 0, 1, 0, 0), 2 + CAST);
        check.due("rows of none, of one sort", x.tape(1, 0, 0) + x.shift(0, 0, 1, 0, 0), 1);
    }

    /** PAIRS so WET, and a TAPE of such bytes. */
    private static BootsStove told(int[] wets, int... bytes) {
        BootsStove x = new BootsStove();
        for (int wet : wets) {
            x.pair(0, 0, wet);
        }
        x.tape(0, 0, bytes.length);
        for (int i = 0; i < bytes.length; i++) {
            x.item(0, i, bytes[i]);
        }
        return x;
    }

    private static void judged() {
        check.sentence("is JUDGED: the first that is otherwise; -5: none, or there are no PAIRS");
        int[] wets = {0, 99, 20, 30, 40, 50};
        check.due("all are so", told(wets, wets).judge(0, 0), -5);
        for (int b = 0; b < 6; b++) {
            for (int by = -1; by <= 1; by += 2) {
                int[] bytes = wets.clone();
                bytes[b] += by;
                check.due("PAIR " + b, told(wets, bytes).judge(0, 0), b);
                bytes[5] = 77;
                check.due("the first of two", told(wets, bytes).judge(0, 0), b);
            }
        }
        check.due("TAKEN or not", took(told(wets, 0, 99, 20, 30, 40, 51)).judge(0, 0), 5);
        check.due("there are no PAIRS", told(new int[0], 1, 2).judge(0, 0), -5);
        check.due("there are no PAIRS, no row", told(new int[0]).judge(0, 0), -5);
        check.due("there are no PAIRS, nothing there", told(new int[0]).judge(1, 0), -5);
        check.due("there are no PAIRS, below 0", told(new int[0], 1).judge(0, -1), -5);
        check.due("there are no PAIRS, beyond", told(new int[0], 1).judge(0, 9), -5);
    }

    private static BootsStove took(BootsStove x) {
        x.take(0, true);
        x.take(5, true);
        return x;
    }

    private static void judgedEnds() {
        check.sentence("100 and how many were looked at, if the row ends ahead of that");
        int[] wets = {0, 99, 20, 30, 40, 50};
        for (int n = 0; n <= 6; n++) {
            int[] bytes = java.util.Arrays.copyOf(wets, n);
            check.due(n + " are told", told(wets, bytes).judge(0, 0), n < 6 ? 100 + n : -5);
            if (n > 0) {
                bytes[n - 1]++;
                check.due(n + " are told, the last otherwise", told(wets, bytes).judge(0, 0), n - 1);
            }
        }
        check.due("more than there are", told(new int[] {7}, 7, 8).judge(0, 0), -5);
    }

    private static void judgedFrom() {
        check.sentence("from a place on");
        BootsStove x = told(new int[] {7, 8}, 7, 8, 7, 8, 7);
        check.due("0", x.judge(0, 0), -5);
        check.due("1", x.judge(0, 1), 0);
        check.due("2", x.judge(0, 2), -5);
        check.due("4: it ends behind one", x.judge(0, 4), 101);
        check.due("5: it ends", x.judge(0, 5), 100);
        check.due("6: it has ended", x.judge(0, 6), 100);
        check.due("MAX: it has ended", x.judge(0, MAX), 100);
        check.sentence("(or the place is below 0, or the TAPE holds nothing)");
        check.due("-1", x.judge(0, -1), 100);
        check.due("MIN", x.judge(0, MIN), 100);
        check.due("nothing there", x.judge(1, 0), 100);
        check.due("nothing there, below 0", x.judge(1, -1), 100);
        BootsStove y = told(new int[] {7}, new int[60]);
        y.item(0, 59, 7);
        check.due("the last of 60", y.judge(0, 59), -5);
        check.due("behind it", y.judge(0, 60), 100);
    }

    private static void judgedNothing() {
        check.sentence("NONE: tape; CAST: it is no row of bytes.");
        BootsStove x = told(new int[] {1}, 1);
        for (int sort = 0; sort <= 4; sort++) {
            x.tape(1, sort, 1);
            x.item(1, 0, 1);
            check.due("sort " + sort, x.judge(1, 0), sort == 0 ? -5 : CAST);
            check.due("sort " + sort + " beyond its end", x.judge(1, 1), sort == 0 ? 100 : CAST);
            check.due("sort " + sort + " below 0", x.judge(1, -1), sort == 0 ? 100 : CAST);
            x.tape(1, sort, 0);
            check.due("none of sort " + sort, x.judge(1, 0), sort == 0 ? 100 : CAST);
        }
        check.due("no such TAPE", x.judge(6, 0), NONE);
        check.due("no such TAPE, below 0", x.judge(-1, -1), NONE);
        x.item(0, 0, 1 + 256);
        check.due("a byte's lowest bits", x.judge(0, 0), -5);
    }

    private static void counts() {
        check.sentence("How many: 0 PAIRS, 1 HUTS, 2 SEEN, 3 of the ROTA, 4 of the BOOK, 5 bytes of THE TEXT, 6 bodies .. BAD.");
        BootsStove x = new BootsStove();
        for (int what = 0; what <= 6; what++) {
            check.due("none of " + what, x.count(what), 0);
        }
        for (int what : new int[] {-1, 7, MIN, MAX}) {
            check.due("what " + what, x.count(what), BAD);
        }
        BootsStove full = Houses.FULL.build();
        full.act(0, 2, 1);
        int[] most = {6, 6, 5, 10, 8, 100, 12};
        for (int what = 0; what <= 6; what++) {
            check.due("the most of " + what, full.count(what), most[what]);
        }
    }
}
