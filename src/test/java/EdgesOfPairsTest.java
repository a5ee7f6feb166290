/** "Terms" 1, sentence by sentence: the bounds of PAIRS and of the stove, and what is there at first. */
public final class EdgesOfPairsTest {
    private static final Check check = new Check();
    private static final int NONE = BootsStove.NONE, BAD = BootsStove.BAD, STATE = BootsStove.STATE, FULL = BootsStove.FULL;

    public static void main(String[] args) {
        pairs();
        kinds();
        numbersV();
        wets();
        dry();
        places();
        noTwoOne();
        leastFree();
        taken();
        cracks();
        heat();
        wood();
        hour();
        check.end("EdgesOfPairsTest");
    }

    private static void pairs() {
        check.sentence("PAIRS 0 .. 5, as they come");
        BootsStove x = new BootsStove();
        for (int b = 0; b < 6; b++) {
            check.due("so many so far", x.count(0), b);
            check.due("the next is none yet", x.of(b, 2), NONE);
            check.due("its number", x.pair(b, 9 - b, 10 * b), b);
        }
        check.due("a seventh", x.pair(0, 0, 0), FULL);
        check.due("six are there", x.count(0), 6);
        check.due("6 is none", x.of(6, 0), NONE);
        check.due("-1 is none", x.of(-1, 0), NONE);
        for (int b = 0; b < 6; b++) {
            check.due("each has its own KIND", x.of(b, 0), b);
            check.due("each has its own v", x.of(b, 1), 9 - b);
            check.due("each has its own WET", x.of(b, 2), 10 * b);
        }
    }

    private static void kinds() {
        check.sentence("KINDS: 0 PAIR; 1 LEATHER, 2 FELT, 3 STUFFED under PAIR; 4 GUIDES under LEATHER; 5 SOCKS under FELT; "
            + "6 TOLD under STUFFED");
        for (int kind = 0; kind <= 6; kind++) {
            BootsStove x = new BootsStove();
            check.due("KIND " + kind, x.pair(kind, 0, 0), 0);
            check.due("of KIND " + kind, x.of(0, 0), kind);
            check.due("all are PAIRS", x.taken(0, 0), kind);
            check.due("each is of its own", x.taken(0, kind), kind);
        }
        BootsStove x = new BootsStove();
        check.due("KIND -1", x.pair(-1, 0, 0), NONE);
        check.due("KIND 7", x.pair(7, 0, 0), NONE);
        int[][] under = {{1, 0}, {2, 0}, {3, 0}, {4, 1}, {5, 2}, {6, 3}};
        for (int[] row : under) {
            BootsStove y = new BootsStove();
            y.pair(row[0], 0, 0);
            y.pair(row[1], 0, 0);
            check.due(row[0] + " is under " + row[1], y.taken(0, row[1]), row[0]);
            check.due(row[1] + " is not under " + row[0], y.taken(1, row[0]), -12);
        }
    }

    private static void numbersV() {
        check.sentence("with a number v (0 .. 9)");
        BootsStove x = new BootsStove();
        check.due("v -1", x.pair(0, -1, 0), BAD);
        check.due("v 10", x.pair(0, 10, 0), BAD);
        check.due("v 0", x.pair(0, 0, 0), 0);
        check.due("v 9", x.pair(0, 9, 0), 1);
        check.due("it is 0", x.of(0, 1), 0);
        check.due("it is 9", x.of(1, 1), 9);
    }

    private static void wets() {
        check.sentence("WET (0 .. 99");
        BootsStove x = new BootsStove();
        check.due("WET -1", x.pair(0, 0, -1), BAD);
        check.due("WET 100", x.pair(0, 0, 100), BAD);
        check.due("WET 0", x.pair(0, 0, 0), 0);
        check.due("WET 99", x.pair(0, 0, 99), 1);
        check.due("it is 0", x.of(0, 2), 0);
        check.due("it is 99", x.of(1, 2), 99);
        check.due("it becomes 99", x.wet(0, 99), 0);
        check.due("it becomes 0", x.wet(1, 0), 99);
        check.due("not 100", x.wet(0, 100), BAD);
        check.due("not -1", x.wet(1, -1), BAD);
        check.due("it is 99", x.of(0, 2), 99);
        check.due("it is 0", x.of(1, 2), 0);
    }

    private static void dry() {
        check.sentence("DRY is one with 0");
        BootsStove x = new BootsStove();
        x.pair(0, 0, 0);
        x.pair(0, 0, 1);
        check.due("0 is, 1 is not", x.told(7), 1);
        check.due("one is", x.night(0), 1);
        check.due("0 is now", x.done(0), 0);
        check.due("1 is not yet", x.done(1), 1);
        x.take(0, true);
        check.due("TAKEN or not", x.told(7), 1);
        x.wet(1, 0);
        check.due("both", x.told(7), 3);
        for (int b = 2; b < 6; b++) {
            x.pair(0, 0, 0);
        }
        check.due("all six", x.told(7), 63);
        x.wet(0, 99);
        check.due("all but 0", x.told(7), 62);
    }

    private static void places() {
        check.sentence("a PLACE (0 .. 5");
        BootsStove x = new BootsStove();
        x.pair(0, 0, 0);
        check.due("to 5", x.put(0, 5), 0);
        check.due("not to 6", x.put(0, 6), NONE);
        check.due("not to -1", x.put(0, -1), NONE);
        check.due("it is at 5", x.of(0, 3), 5);
        check.due("who is at 5", x.told(25), 0);
        check.due("to 0", x.put(0, 0), 5);
        check.due("who is at 0", x.told(20), 0);
        check.due("nobody is at 5", x.told(25), -5);
        check.due("WARM of 5 is one", x.told(15), 0);
        check.due("WARM of 6 is none", x.told(16), NONE);
        check.due("DRIES at 5 is one", x.of(0, 15), 0);
        check.due("DRIES at 6 is none", x.of(0, 16), NONE);
    }

    private static void noTwoOne() {
        check.sentence("no two one");
        BootsStove x = new BootsStove();
        for (int b = 0; b < 6; b++) {
            x.pair(b, 0, 0);
        }
        for (int b = 0; b < 6; b++) {
            for (int p = 0; p < 6; p++) {
                int was = x.of(b, 3);
                int other = x.told(20 + p);
                check.due("where it was", x.put(b, p), was);
                int bits = 0;
                for (int c = 0; c < 6; c++) {
                    bits |= 1 << x.of(c, 3);
                }
                check.due("all six PLACES have one", bits, 63);
                check.due("it came", x.of(b, 3), p);
                check.due("who was there has its own", x.of(other, 3), other == b ? p : was);
            }
        }
    }

    private static void leastFree() {
        check.sentence("the least that is free at first");
        BootsStove x = new BootsStove();
        x.pair(0, 0, 0);
        check.due("0", x.of(0, 3), 0);
        x.put(0, 1);
        x.pair(0, 0, 0);
        check.due("0 is free", x.of(1, 3), 0);
        x.pair(0, 0, 0);
        check.due("0 and 1 are not", x.of(2, 3), 2);
        x.put(2, 5);
        x.take(1, true);
        x.pair(0, 0, 0);
        check.due("the TAKEN one's is not", x.of(3, 3), 2);
        x.pair(0, 0, 0);
        x.pair(0, 0, 0);
        check.due("3", x.of(4, 3), 3);
        check.due("4, for 5 is not", x.of(5, 3), 4);
        BootsStove y = new BootsStove();
        y.pair(0, 0, 0);
        y.image();
        y.pair(0, 0, 0);
        y.undo();
        y.pair(0, 0, 0);
        check.due("1 is free again", y.of(1, 3), 1);
    }

    private static void taken() {
        check.sentence("TAKEN (away), or not (not at first; it keeps its PLACE)");
        BootsStove x = new BootsStove();
        x.pair(0, 0, 50);
        x.pair(0, 0, 50);
        check.due("not at first", x.of(0, 4), 0);
        check.due("it was not", x.take(0, true), 0);
        check.due("it is", x.of(0, 4), 1);
        check.due("the other is not", x.of(1, 4), 0);
        check.due("its PLACE", x.of(0, 3), 0);
        check.due("who is there", x.told(20), 0);
        check.due("who comes there gives its own", x.put(1, 0), 1);
        check.due("it has that", x.of(0, 3), 1);
        check.due("it was", x.take(0, false), 1);
        check.due("it keeps that", x.of(0, 3), 1);
        check.due("it is not", x.of(0, 4), 0);
    }

    private static void cracks() {
        check.sentence("CRACKS (0 .. 9999; 0 at first)");
        BootsStove x = new BootsStove();
        x.pair(1, 0, 0);
        check.due("0", x.of(0, 5), 0);
        Check.hut(x, "cool 0");
        for (int n = 0; n < 166; n++) {
            x.pass(60);
        }
        x.pass(39);
        check.due("9999", x.of(0, 5), 9999);
        check.due("of all", x.told(6), 9999);
        check.due("no more", x.pass(1), STATE);
        check.due("9999 still", x.of(0, 5), 9999);
        x.pair(1, 0, 0);
        check.due("0 of one that has come", x.of(1, 5), 0);
    }

    private static void heat() {
        check.sentence("HEAT (0 .. 30; 10 at first)");
        BootsStove x = new BootsStove();
        check.due("10", x.told(1), 10);
        check.due("not 31", x.set(0, 31), BAD);
        check.due("not -1", x.set(0, -1), BAD);
        check.due("10 still", x.set(0, 30), 10);
        check.due("30", x.told(1), 30);
        check.due("30", x.set(0, 0), 30);
        check.due("0", x.told(1), 0);
        x.pass(1);
        check.due("never below", x.told(1), 0);
        x.set(0, 30);
        x.stoke();
        check.due("never above", x.told(1), 30);
    }

    private static void wood() {
        check.sentence("WOOD (0 .. 9; 3 at first)");
        BootsStove x = new BootsStove();
        check.due("3", x.told(2), 3);
        check.due("not 10", x.set(1, 10), BAD);
        check.due("not -1", x.set(1, -1), BAD);
        check.due("3 still", x.set(1, 9), 3);
        for (int n = 9; n > 0; n--) {
            check.due("so much", x.told(2), n);
            check.due("one STOKES", x.stoke(), Math.min(30, 10 + 6 * (10 - n)));
        }
        check.due("0", x.told(2), 0);
        check.due("no more", x.stoke(), STATE);
        check.due("0 still", x.set(1, 0), 0);
    }

    private static void hour() {
        check.sentence("HOUR: 0 at first.");
        BootsStove x = new BootsStove();
        check.due("0", x.told(0), 0);
        check.sentence("n HOURS (0 .. 60) go: HOUR. BAD; STATE: it would be above 9999.");
        check.due("0 go", x.pass(0), 0);
        check.due("-1", x.pass(-1), BAD);
        check.due("61", x.pass(61), BAD);
        for (int n = 1; n <= 165; n++) {
            check.due("60 go", x.pass(60), 60 * n);
        }
        check.due("9900 and 60", x.pass(60), 9960);
        check.due("9960 and 40", x.pass(40), STATE);
        check.due("9960 and 60", x.pass(60), STATE);
        check.due("9960 still", x.told(0), 9960);
        check.due("9960 and 39", x.pass(39), 9999);
        check.due("9999 and 0", x.pass(0), 9999);
        check.due("9999 and 1", x.pass(1), STATE);
    }
}
