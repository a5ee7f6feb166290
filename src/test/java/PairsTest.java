/** Promises 1 to 9: a new object, PAIRS, the stove, the ROW. */
public final class PairsTest {
    private static final Check check = new Check();

    public static void main(String[] args) {
        promise1();
        promise2();
        promise3();
        dries();
        spoils();
        promise4();
        promise5();
        promise6();
        promise7();
        promise8();
        promise9();
        check.end("PairsTest");
    }

    private static void promise1() {
        BootsStove x = new BootsStove();
        check.due("1: no PAIRS", x.count(0), 0);
        check.due("1: no HUT", x.count(1), 0);
        check.due("1: HEAT", x.told(1), 10);
        check.due("1: WOOD", x.told(2), 3);
        check.due("1: HOUR", x.told(0), 0);
        check.due("1: COOL", x.told(3), 1);
        check.due("1: LOG", x.told(4), 6);
        check.due("1: no IMAGE", x.undo(), BootsStove.STATE);
        for (int what = 2; what <= 6; what++) {
            check.due("1: count " + what, x.count(what), 0);
        }
    }

    private static void promise2() {
        BootsStove x = new BootsStove();
        check.due("2: kind 7", x.pair(7, 0, 0), BootsStove.NONE);
        check.due("2: kind -1", x.pair(-1, 0, 0), BootsStove.NONE);
        check.due("2: kind is named first", x.pair(7, 10, 100), BootsStove.NONE);
        check.due("2: v 10", x.pair(0, 10, 0), BootsStove.BAD);
        check.due("2: v -1", x.pair(0, -1, 0), BootsStove.BAD);
        check.due("2: wet 100", x.pair(0, 0, 100), BootsStove.BAD);
        check.due("2: wet -1", x.pair(0, 0, -1), BootsStove.BAD);
        check.due("2: nothing came", x.count(0), 0);
        for (int b = 0; b < 6; b++) {
            check.due("2: PAIR " + b, x.pair(b + 1, 9, 99), b);
        }
        check.due("2: 6", x.pair(0, 0, 0), BootsStove.FULL);
        check.due("2: NONE ahead of FULL", x.pair(7, 0, 0), BootsStove.NONE);
        check.due("2: BAD ahead of FULL", x.pair(0, 0, 100), BootsStove.BAD);
        check.due("2: 6 are there", x.count(0), 6);
        check.due("2: the last free is 5", x.of(5, 3), 5);

        BootsStove free = new BootsStove();
        free.pair(0, 0, 0);
        free.put(0, 2);
        free.pair(0, 0, 0);
        free.pair(0, 0, 0);
        free.pair(0, 0, 0);
        check.due("2: the least free is 0", free.of(1, 3), 0);
        check.due("2: then 1", free.of(2, 3), 1);
        check.due("2: 2 is not free, so 3", free.of(3, 3), 3);
    }

    private static void promise3() {
        BootsStove x = new BootsStove();
        check.due("3: no PAIR 0", x.of(0, 0), BootsStove.NONE);
        x.pair(1, 5, 45);
        x.pair(4, 3, 99);
        int[] first = {1, 5, 45, 0, 0, 0, 1};
        int[] second = {4, 3, 99, 1, 0, 0, 0};
        for (int what = 0; what < 7; what++) {
            check.due("3: of(0, " + what + ")", x.of(0, what), first[what]);
            check.due("3: of(1, " + what + ")", x.of(1, what), second[what]);
        }
        for (int what : new int[] {-1, 7, 8, 9, 16, 17, Integer.MAX_VALUE, Integer.MIN_VALUE}) {
            check.due("3: no what " + what, x.of(0, what), BootsStove.NONE);
        }
        check.due("3: PAIR 2", x.of(2, 0), BootsStove.NONE);
        check.due("3: PAIR -1", x.of(-1, 0), BootsStove.NONE);
        check.due("3: PAIR MIN", x.of(Integer.MIN_VALUE, 10), BootsStove.NONE);
        x.take(0, true);
        check.due("3: TAKEN", x.of(0, 4), 1);
        check.due("3: TAKEN SPOILS by its PLACE all the same", x.of(0, 6), 1);
        check.due("3: TAKEN DRIES by its PLACE all the same", x.of(0, 10), 5);
        x.take(0, false);
        x.pass(1);
        check.due("3: CRACKS", x.of(0, 5), 1);
        check.due("3: WET 45 less 5", x.of(0, 2), 40);
    }

    /** Each KIND's DRIES at each PLACE, by HEAT 20: WARM 20 17 14 11 8 5. */
    private static void dries() {
        BootsStove x = new BootsStove();
        for (int kind = 0; kind < 6; kind++) {
            x.pair(kind, 7, 50);
        }
        x.set(0, 20);
        int[][] due = {
            {20, 17, 14, 11, 8, 5}, {10, 8, 7, 5, 8, 5}, {10, 8, 7, 5, 4, 2},
            {27, 24, 21, 18, 15, 12}, {12, 10, 9, 7, 10, 7}, {10, 8, 7, 5, 4, 2}};
        for (int b = 0; b < 6; b++) {
            for (int p = 0; p < 6; p++) {
                check.due("3: KIND " + b + " DRIES at " + p, x.of(b, 10 + p), due[b][p]);
            }
        }
        x.wet(3, 49);
        check.due("3: STUFFED below 50", x.of(3, 10), 20);
        x.wet(5, 6);
        check.due("3: SOCKS below v", x.of(5, 10), 0);
        x.wet(5, 7);
        check.due("3: SOCKS with WET v", x.of(5, 10), 10);
        x.set(0, 9);
        check.due("3: LEATHER by WARM 9", x.of(1, 10), 4);
        x.set(0, 8);
        check.due("3: LEATHER by WARM 8", x.of(1, 10), 8);
        check.due("3: GUIDES by WARM 8", x.of(4, 10), 10);
        x.pass(1);
        check.due("3: GUIDES at HOUR 1", x.of(4, 10), 7);
        x.pass(3);
        check.due("3: GUIDES at HOUR 4", x.of(4, 10), 6);

        BootsStove told = new BootsStove();
        told.pair(6, 4, 50);
        for (int part = 0; part < 4; part++) {
            told.row(0, part, part + 5);
        }
        told.set(0, 2);
        for (int hour = 0; hour < 6; hour++) {
            check.due("3: TOLD's ROW at HOUR " + hour, told.of(0, 15), 4 + 5 + hour % 4);
            told.wet(0, 99);
            told.pass(1);
        }
        told.wet(0, 49);
        check.due("3: TOLD below 50", told.of(0, 10), 7);
        damped();
    }

    /** SUM below 0, by a HUT that damps 13 (14 by v 1): halves are cut toward 0, the end is 0 at least. */
    private static void damped() {
        BootsStove x = new BootsStove();
        x.pair(4, 0, 50);
        x.pair(6, 9, 50);
        x.pair(2, 0, 50);
        x.pair(0, 0, 50);
        Check.hut(x, "damp 13 k>1;damp 11 k=0");
        x.set(0, 10);
        check.due("3: GUIDES -3 / 2 is -1, and 2", x.of(0, 10), 1);
        check.due("3: GUIDES -13 and 2, 0 at least", x.of(0, 15), 0);
        check.due("3: TOLD -3 and v 9", x.of(1, 10), 6);
        x.row(1, 0, 4);
        check.due("3: TOLD -13, v 9, ROW 4", x.of(1, 15), 0);
        x.row(1, 0, 5);
        check.due("3: TOLD -13, v 9, ROW 5", x.of(1, 15), 1);
        check.due("3: FELT 0 at least", x.of(2, 10), 0);
        check.due("3: PAIR 0 at least", x.of(3, 10), 0);
        damped2();
        check.due("3: PAIR does not rise", x.pass(1) + 100 * x.of(3, 2), 5001);
    }

    private static void damped2() {
        int[] kinds = {0, 1, 2, 3, 5, 6};
        BootsStove x = new BootsStove();
        for (int kind : kinds) {
            x.pair(kind, 0, 50);
        }
        Check.hut(x, "damp 40 b<9");
        for (int b = 0; b < 6; b++) {
            for (int p = 0; p < 6; p++) {
                check.due("3: KIND " + kinds[b] + " far below 0 at " + p, x.of(b, 10 + p), 0);
            }
        }
    }

    private static void spoils() {
        BootsStove x = new BootsStove();
        for (int kind = 0; kind < 6; kind++) {
            x.pair(kind, 3, 50);
        }
        x.set(0, 30);
        for (int b = 0; b < 6; b++) {
            x.put(b, 0);
            check.due("3: KIND " + b + " SPOILS at WARM 30", x.of(b, 6), b == 1 || b == 4 ? 1 : 0);
        }
        x.put(4, 0);
        x.set(0, 12);
        check.due("3: GUIDES by 12 and v 3", x.of(4, 6), 1);
        x.set(0, 11);
        check.due("3: GUIDES by 11 and v 3", x.of(4, 6), 0);
        x.put(1, 0);
        x.set(0, 9);
        check.due("3: LEATHER by 9", x.of(1, 6), 1);
        x.set(0, 8);
        check.due("3: LEATHER by 8", x.of(1, 6), 0);
        x.set(0, 11);
        x.put(1, 1);
        check.due("3: LEATHER at PLACE 1 by 8", x.of(1, 6), 0);
        BootsStove told = new BootsStove();
        told.pair(6, 0, 50);
        check.due("3: TOLD never SPOILS", told.of(0, 6), 0);
    }

    private static void promise4() {
        BootsStove x = new BootsStove();
        x.pair(0, 0, 44);
        check.due("4: what it was", x.wet(0, 99), 44);
        check.due("4: what it became", x.wet(0, 0), 99);
        check.due("4: WET 100", x.wet(0, 100), BootsStove.BAD);
        check.due("4: WET -1", x.wet(0, -1), BootsStove.BAD);
        check.due("4: no PAIR", x.wet(1, 5), BootsStove.NONE);
        check.due("4: PAIR is named first", x.wet(-1, 100), BootsStove.NONE);
        check.due("4: nothing changed", x.of(0, 2), 0);
    }

    private static void promise5() {
        BootsStove x = new BootsStove();
        x.pair(0, 0, 0);
        x.pair(0, 0, 0);
        check.due("5: where it was", x.put(0, 4), 0);
        check.due("5: where it is", x.of(0, 3), 4);
        check.due("5: to the other's", x.put(1, 4), 1);
        check.due("5: who was there has its own", x.of(0, 3), 1);
        check.due("5: it came", x.of(1, 3), 4);
        check.due("5: to its own", x.put(1, 4), 4);
        check.due("5: it stays", x.of(1, 3), 4);
        check.due("5: PLACE 6", x.put(0, 6), BootsStove.NONE);
        check.due("5: PLACE -1", x.put(0, -1), BootsStove.NONE);
        check.due("5: PAIR 2", x.put(2, 0), BootsStove.NONE);
        check.due("5: PAIR -1", x.put(-1, 0), BootsStove.NONE);
        x.take(0, true);
        x.put(1, 1);
        check.due("5: a TAKEN one keeps its PLACE, and gives it", x.of(0, 3), 4);
    }

    private static void promise6() {
        BootsStove x = new BootsStove();
        x.pair(0, 0, 50);
        check.due("6: was not", x.take(0, true), 0);
        check.due("6: was", x.take(0, true), 1);
        check.due("6: no HOUR dries it", x.pass(5) + x.of(0, 2), 55);
        check.due("6: was", x.take(0, false), 1);
        check.due("6: was not", x.take(0, false), 0);
        check.due("6: no PAIR", x.take(1, true), BootsStove.NONE);
        check.due("6: PAIR -1", x.take(-1, true), BootsStove.NONE);
    }

    private static void promise7() {
        BootsStove x = new BootsStove();
        check.due("7: HEAT", x.stoke(), 16);
        check.due("7: HEAT", x.stoke(), 22);
        check.due("7: WOOD", x.told(2), 1);
        x.set(0, 25);
        check.due("7: 30 at most", x.stoke(), 30);
        check.due("7: no WOOD", x.stoke(), BootsStove.STATE);
        check.due("7: nothing changed", x.told(1) + 100 * x.told(2), 30);
        Check.hut(x, "log 12;log 2");
        x.set(1, 9);
        x.set(0, 3);
        check.due("7: the last log's", x.stoke(), 5);
    }

    private static void promise8() {
        BootsStove x = new BootsStove();
        check.due("8: HEAT was", x.set(0, 30), 10);
        check.due("8: HEAT was", x.set(0, 0), 30);
        check.due("8: WOOD was", x.set(1, 9), 3);
        check.due("8: WOOD was", x.set(1, 0), 9);
        check.due("8: HEAT 31", x.set(0, 31), BootsStove.BAD);
        check.due("8: HEAT -1", x.set(0, -1), BootsStove.BAD);
        check.due("8: WOOD 10", x.set(1, 10), BootsStove.BAD);
        check.due("8: WOOD -1", x.set(1, -1), BootsStove.BAD);
        check.due("8: what 2", x.set(2, 5), BootsStove.NONE);
        check.due("8: what is named first", x.set(-1, 99), BootsStove.NONE);
        check.due("8: nothing changed", x.told(1) + x.told(2), 0);
    }

    private static void promise9() {
        BootsStove x = new BootsStove();
        x.pair(6, 0, 0);
        x.pair(3, 0, 0);
        check.due("9: was 0", x.row(0, 3, 9), 0);
        check.due("9: was 9", x.row(0, 3, 1), 9);
        check.due("9: another part", x.row(0, 0, 2), 0);
        check.due("9: n 10", x.row(0, 0, 10), BootsStove.BAD);
        check.due("9: n -1", x.row(0, 0, -1), BootsStove.BAD);
        check.due("9: part 4", x.row(0, 4, 1), BootsStove.NONE);
        check.due("9: part is named ahead of n", x.row(0, -1, 10), BootsStove.NONE);
        check.due("9: no PAIR", x.row(2, 0, 1), BootsStove.NONE);
        check.due("9: STUFFED has none", x.row(1, 0, 1), BootsStove.STATE);
        check.due("9: n is named ahead of KIND", x.row(1, 0, 10), BootsStove.BAD);
        check.due("9: part is named ahead of KIND", x.row(1, 4, 1), BootsStove.NONE);
        check.due("9: it stays", x.row(0, 0, 0), 2);
    }
}
