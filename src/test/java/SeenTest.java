/** Promises 20 to 25: SEEN, WETS, CAN, WHERE, ODDS, MEAN. */
public final class SeenTest {
    private static final Check check = new Check();

    public static void main(String[] args) {
        promise20();
        promise21();
        wetsOfKinds();
        full();
        promise22();
        promise23();
        promise24();
        promise25();
        check.end("SeenTest");
    }

    private static void promise20() {
        BootsStove x = new BootsStove();
        check.due("20: no PAIR", x.see(0, 0, 0), BootsStove.NONE);
        check.due("20: none then", x.see(-1, 500, 500), 0);
        x.pair(0, 0, 50);
        check.due("20: PAIR 1", x.see(1, 0, 0), BootsStove.NONE);
        check.due("20: PAIR -2 is named first", x.see(-2, 100, 21), BootsStove.NONE);
        check.due("20: WET 100", x.see(0, 100, 0), BootsStove.BAD);
        check.due("20: WET -1", x.see(0, -1, 0), BootsStove.BAD);
        check.due("20: n 21", x.see(0, 0, 21), BootsStove.BAD);
        check.due("20: n -1", x.see(0, 0, -1), BootsStove.BAD);
        check.due("20: none came", x.count(2), 0);
        check.due("20: 1", x.see(0, 99, 20), 1);
        for (int n = 2; n <= 5; n++) {
            check.due("20: " + n, x.see(0, 0, 0), n);
        }
        check.due("20: 6", x.see(0, 0, 0), BootsStove.FULL);
        check.due("20: BAD ahead of FULL", x.see(0, 100, 0), BootsStove.BAD);
        check.due("20: there are 5", x.count(2), 5);
        check.due("20: none then", x.see(-1, -1, -1), 0);
        check.due("20: there are none", x.count(2), 0);
    }

    private static void promise21() {
        BootsStove x = new BootsStove();
        x.pair(0, 0, 50);
        x.pair(0, 0, 50);
        check.due("21: nothing SEEN, all", x.wets(0, 0), 100);
        check.due("21: from 0", x.wets(0, 1), 0);
        check.due("21: no PAIR", x.wets(2, 0), BootsStove.NONE);
        check.due("21: what 2", x.wets(0, 2), BootsStove.NONE);
        check.due("21: what -1", x.wets(0, -1), BootsStove.NONE);
        x.see(0, 20, 2);
        check.due("21: 20 behind 10 and 9", x.wets(0, 1), 39);
        check.due("21: one", x.wets(0, 0), 1);
        check.due("21: of another one nothing is SEEN", x.wets(1, 0), 100);
        x.see(-1, 0, 0);
        x.see(0, 0, 2);
        check.due("21: DRY behind 10 and 9", x.wets(0, 0), 20);
        check.due("21: from 0", x.wets(0, 1), 0);
        x.see(0, 2, 1);
        check.due("21: and 2 behind 10", x.wets(0, 0), 1);
        check.due("21: 12", x.wets(0, 1), 12);
        x.see(0, 13, 0);
        check.due("21: and 13 now, none", x.wets(0, 0), 0);
        check.due("21: none", x.wets(0, 1), -5);
        check.due("21: nothing changed", x.of(0, 2) + x.told(0), 50);
        x.see(-1, 0, 0);
        x.see(0, 30, 1);
        x.pass(1);
        check.due("21: from now on, so by 9", x.wets(0, 1), 39);
        x.take(0, true);
        check.due("21: TAKEN", x.wets(0, 1), 30);
        x.see(0, 30, 20);
        check.due("21: TAKEN, always", x.wets(0, 0), 1);
        x.see(0, 31, 20);
        check.due("21: TAKEN, never", x.wets(0, 0), 0);
    }

    private static void wetsOfKinds() {
        BootsStove x = new BootsStove();
        x.pair(3, 5, 0);
        // STUFFED by WARM 10: 15 from 50 on
        x.see(0, 40, 1);
        check.due("21: 50 less 10 is none, 55 less 15 is one", x.wets(0, 0), 1);
        check.due("21: 55", x.wets(0, 1), 55);
        x.see(-1, 0, 0);
        x.see(0, 35, 1);
        check.due("21: 45 less 10, 50 less 15", x.wets(0, 0), 2);
        check.due("21: the least", x.wets(0, 1), 45);
        BootsStove y = new BootsStove();
        y.pair(5, 9, 0);
        y.see(0, 4, 1);
        check.due("21: SOCKS 4, or 9 less 5", y.wets(0, 0), 2);
        y.see(-1, 0, 0);
        y.see(0, 99, 0);
        check.due("21: up to 99", y.wets(0, 1), 99);
        BootsStove z = new BootsStove();
        z.pair(0, 0, 0);
        Check.hut(z, "damp 9 w>2");
        z.see(0, 34, 1);
        check.due("21: w by how WET it were: 35 less 1", z.wets(0, 0) * 100 + z.wets(0, 1), 135);
        z.see(-1, 0, 0);
        z.see(0, 20, 1);
        check.due("21: 30 less 1 is 29, so none", z.wets(0, 0), 0);
        z.see(-1, 0, 0);
        z.see(0, 19, 1);
        check.due("21: 29 less 10", z.wets(0, 1), 29);
    }

    /** With all that can be: six PAIRS and five rows. */
    private static void full() {
        BootsStove x = new BootsStove();
        for (int b = 0; b < 6; b++) {
            x.pair(0, 0, 10 * b + 10);
        }
        for (int n = 0; n < 5; n++) {
            x.see(5, 60, n);
        }
        check.due("21: 60 at WARM 0, always", x.wets(5, 0) * 100 + x.wets(5, 1), 160);
        check.due("22: any v", x.can(5, 0), 10);
        check.due("23: WARM 0 at 4 and 5", x.where(5), 48);
        fraction("24: 210 less 60 is 150", x.odds(0, 150, 0), x.odds(0, 150, 1), 1, 6);
        fraction("24: at most 200", x.odds(0, 200, 0), x.odds(0, 200, 1), 1, 1);
        fraction("25: 210 by 6", x.mean(0, 0), x.mean(0, 1), 35, 1);
        check.due("12: WET of all", x.told(5), 210);
        check.due("12: CRACKS of all", x.told(6), 0);
        check.due("12: DRY", x.told(7), 0);
        check.due("16: PAIR 0 by 10", x.night(1), 1);
        check.due("17: PAIR 0 by 10", x.placed(1, 0), 1);
        // 4 or 5 at PLACE 0 is 45 less WET, and 0 at theirs 10 more: the first of the two
        check.due("18: 0 and 4", x.change(), 4);
    }

    private static void promise22() {
        BootsStove x = new BootsStove();
        x.pair(3, 5, 60);
        x.pair(0, 5, 60);
        check.due("22: nothing SEEN, all", x.can(0, 0), 10);
        check.due("22: from 0", x.can(0, 1), 0);
        check.due("22: no PAIR", x.can(2, 0), BootsStove.NONE);
        check.due("22: what 2", x.can(0, 2), BootsStove.NONE);
        check.due("22: what -1", x.can(0, -1), BootsStove.NONE);
        x.see(0, 41, 1);
        check.due("22: 60 less 10 and 9", x.can(0, 1), 9);
        check.due("22: one", x.can(0, 0), 1);
        check.due("22: of another one nothing is SEEN", x.can(1, 0), 10);
        x.see(1, 0, 1);
        check.due("22: of another one none can be", x.can(1, 1), -5);
        check.due("22: of another one none can be", x.can(1, 0), 0);
        check.due("22: that does not bear on this", x.can(0, 0), 1);
        check.due("22: nothing changed", x.of(0, 1), 5);
        BootsStove y = new BootsStove();
        y.pair(0, 1, 60);
        Check.hut(y, "dry 5 v>6");
        y.see(0, 45, 1);
        check.due("22: 7 8 9 by the HUT", y.can(0, 0), 3);
        check.due("22: from 7", y.can(0, 1), 7);
        BootsStove z = new BootsStove();
        z.pair(5, 0, 7);
        z.see(0, 7, 2);
        check.due("22: SOCKS with v above 7", z.can(0, 0) * 10 + z.can(0, 1), 28);
    }

    private static void promise23() {
        BootsStove x = new BootsStove();
        x.pair(0, 0, 50);
        x.pair(0, 0, 60);
        check.due("23: nothing SEEN, all", x.where(0), 63);
        check.due("23: no PAIR", x.where(2), BootsStove.NONE);
        check.due("23: PAIR -1", x.where(-1), BootsStove.NONE);
        x.see(0, 46, 1);
        check.due("23: 4 is WARM of PLACE 2", x.where(0), 4);
        x.see(-1, 0, 0);
        x.see(0, 50, 1);
        check.due("23: WARM 0 at 4 and 5", x.where(0), 48);
        check.due("23: by where the other is, nowhere", x.where(1), 0);
        x.see(1, 53, 1);
        check.due("23: the other is at 1 by then", x.where(0), 48);
        x.see(-1, 0, 0);
        x.see(1, 50, 1);
        check.due("23: who is there has its own", x.where(0), 2);
        check.due("23: it comes to 0 itself", x.where(1), 1);
        x.see(0, 43, 1);
        check.due("23: all of SEEN, together", x.where(0), 2);
        check.due("23: all of SEEN, together", x.where(1), 1);
        x.see(0, 40, 1);
        check.due("23: nowhere", x.where(0), 0);
        x.see(-1, 0, 0);
        x.see(1, 60, 20);
        x.take(1, true);
        check.due("23: a TAKEN one, anywhere", x.where(1), 63);
        check.due("23: the other, anywhere", x.where(0), 63);
        check.due("23: nothing changed", x.of(0, 3) * 10 + x.of(1, 3), 1);
    }

    private static void fraction(String call, long above, long below, long a, long b) {
        check.due(call + ", above", above, a);
        check.due(call + ", below", below, b);
    }

    private static void promise24() {
        BootsStove x = new BootsStove();
        check.due("24: there are none", x.odds(0, 0, 0), BootsStove.NO);
        check.due("24: there are none", x.odds(0, 0, 1), BootsStove.NO);
        x.pair(0, 0, 10);
        fraction("24: one alone: no others", x.odds(0, 0, 0), x.odds(0, 0, 1), 1, 1);
        x.pair(0, 0, 20);
        x.pair(0, 0, 30);
        x.pair(0, 0, 40);
        // of 100: 90 80 70 60
        fraction("24: 59", x.odds(0, 59, 0), x.odds(0, 59, 1), 0, 1);
        fraction("24: 60", x.odds(0, 60, 0), x.odds(0, 60, 1), 1, 4);
        fraction("24: 79", x.odds(0, 79, 0), x.odds(0, 79, 1), 1, 2);
        fraction("24: 80", x.odds(0, 80, 0), x.odds(0, 80, 1), 3, 4);
        fraction("24: 90", x.odds(0, 90, 0), x.odds(0, 90, 1), 1, 1);
        x.take(3, true);
        // of 60: 50 40 30, and 60 by the TAKEN one
        fraction("24: one is TAKEN, 59", x.odds(0, 59, 0), x.odds(0, 59, 1), 3, 4);
        fraction("24: one is TAKEN, 60", x.odds(0, 60, 0), x.odds(0, 60, 1), 1, 1);
        fraction("24: one is TAKEN, 30", x.odds(0, 30, 0), x.odds(0, 30, 1), 1, 4);
        // behind 1: 0, 13, 26
        fraction("24: behind 1", x.odds(1, 13, 0), x.odds(1, 13, 1), 1, 4);
        fraction("24: behind 1", x.odds(1, 26, 0), x.odds(1, 26, 1), 1, 2);
        fraction("24: behind 60", x.odds(60, 999, 0), x.odds(60, 999, 1), 1, 1);
        check.due("24: n 61", x.odds(61, 0, 0), BootsStove.NO);
        check.due("24: n -1", x.odds(-1, 0, 0), BootsStove.NO);
        check.due("24: q 1000", x.odds(0, 1000, 0), BootsStove.NO);
        check.due("24: q -1", x.odds(0, -1, 0), BootsStove.NO);
        check.due("24: part 2", x.odds(0, 0, 2), BootsStove.NO);
        check.due("24: part -1", x.odds(0, 0, -1), BootsStove.NO);
        check.due("24: nothing changed", x.told(5) + x.told(0), 60);
    }

    private static void promise25() {
        BootsStove x = new BootsStove();
        check.due("25: there are none", x.mean(0, 0), BootsStove.NO);
        check.due("25: there are none", x.mean(0, 1), BootsStove.NO);
        x.pair(0, 0, 0);
        fraction("25: DRY", x.mean(0, 0), x.mean(0, 1), 0, 1);
        x.wet(0, 25);
        x.pair(0, 0, 25);
        x.take(1, true);
        fraction("25: TAKEN or not", x.mean(0, 0), x.mean(0, 1), 25, 1);
        fraction("25: the TAKEN one does not dry", x.mean(1, 0), x.mean(1, 1), 20, 1);
        x.wet(0, 24);
        fraction("25: 49 by 2", x.mean(0, 0), x.mean(0, 1), 49, 2);
        x.pair(0, 0, 99);
        x.pair(0, 0, 32);
        fraction("25: 180 by 4", x.mean(0, 0), x.mean(0, 1), 45, 1);
        x.wet(3, 30);
        fraction("25: 178 by 4", x.mean(0, 0), x.mean(0, 1), 89, 2);
        fraction("25: behind 60: 25, 99 less 10, 30 less 1", x.mean(60, 0), x.mean(60, 1), 143, 4);
        check.due("25: n 61", x.mean(61, 0), BootsStove.NO);
        check.due("25: n -1", x.mean(-1, 0), BootsStove.NO);
        check.due("25: part 2", x.mean(0, 2), BootsStove.NO);
        check.due("25: part -1", x.mean(0, -1), BootsStove.NO);
        check.due("25: nothing changed", x.told(0), 0);
    }
}
