/** Promises 17 to 19: PLACED, CHANGE, LOGS. */
public final class PlacesTest {
    private static final Check check = new Check();

    public static void main(String[] args) {
        placedOfTwo();
        placedRefuses();
        placedByRow();
        placedOfTaken();
        promise18();
        changeOfTaken();
        promise19();
        logsOfFew();
        check.end("PlacesTest");
    }

    /** n HOURS by HEAT 10, COOL 1: PLACE 0 DRIES 10 9 8 .., PLACE 1 7 6 5 .., PLACE 2 4 3 2 .., PLACE 3 1. */
    private static void placedOfTwo() {
        BootsStove x = new BootsStove();
        x.pair(0, 0, 20);
        x.pair(0, 0, 13);
        x.put(0, 4);
        x.put(1, 5);
        // behind 2: 20 is DRY nowhere, 13 at 0 and at 1
        check.due("17: most DRY first", x.placed(2, 0), 1);
        check.due("17: then the least WET", x.placed(2, 1), 1);
        check.due("17: PAIR 0 at 0", x.placed(2, 10), 0);
        check.due("17: PAIR 1 at 1", x.placed(2, 11), 1);
        // behind 1: none is DRY; 17 are gone either way: the first as a row
        check.due("17: none", x.placed(1, 0), 0);
        check.due("17: 33 less 17", x.placed(1, 1), 16);
        check.due("17: the first as a row", x.placed(1, 10) * 10 + x.placed(1, 11), 1);
        // behind 1 with 9: DRY by 10 alone, though WET is then no less
        x.wet(1, 9);
        check.due("17: DRY goes ahead of WET", x.placed(1, 10) * 10 + x.placed(1, 11), 10);
        check.due("17: one", x.placed(1, 0), 1);
        check.due("17: 20 less 7", x.placed(1, 1), 13);
        check.due("17: nothing changed", x.of(0, 3) * 10 + x.of(1, 3), 45);
        check.due("17: behind 12 both", x.placed(12, 0), 2);
        check.due("17: none WET", x.placed(12, 1), 0);
        check.due("17: the first as a row, 0", x.placed(12, 10), 0);
        check.due("17: the first as a row, 1", x.placed(12, 11), 1);
    }

    private static void placedRefuses() {
        BootsStove x = new BootsStove();
        check.due("17: no PAIRS, none DRY", x.placed(3, 0), 0);
        check.due("17: no PAIRS, none WET", x.placed(3, 1), 0);
        check.due("17: no PAIRS, no PLACE", x.placed(3, 10), BootsStove.NONE);
        x.pair(0, 0, 50);
        check.due("17: no PAIR 1", x.placed(3, 11), BootsStove.NONE);
        check.due("17: what 2", x.placed(3, 2), BootsStove.NONE);
        check.due("17: what 9", x.placed(3, 9), BootsStove.NONE);
        check.due("17: what -1", x.placed(3, -1), BootsStove.NONE);
        check.due("17: what MIN", x.placed(3, Integer.MIN_VALUE), BootsStove.NONE);
        check.due("17: what is named first", x.placed(0, 2), BootsStove.NONE);
        check.due("17: n 0", x.placed(0, 0), BootsStove.BAD);
        check.due("17: n 13", x.placed(13, 0), BootsStove.BAD);
        check.due("17: n 13", x.placed(13, 10), BootsStove.BAD);
    }

    /** Where all PLACES are alike, the first row is 0 1 2 3 4 5. */
    private static void placedByRow() {
        BootsStove x = new BootsStove();
        for (int b = 0; b < 6; b++) {
            x.pair(b, 1, 80);
            x.put(b, 0);
        }
        x.set(0, 0);
        for (int b = 0; b < 6; b++) {
            check.due("17: PAIR " + b + " by row", x.placed(5, 10 + b), b);
        }
        BootsStove one = new BootsStove();
        for (int b = 0; b < 6; b++) {
            one.pair(0, 1, 80);
        }
        one.set(0, 0);
        one.wet(2, 99);
        // PLACE 5 alone dries: PAIR 2 by 19, PAIR 4 not at all, others by 10
        Check.hut(one, "dry 10 p=5;dry 9 p=5&b=2;damp 99 b=4");
        int[] way = {0, 1, 5, 2, 3, 4};
        for (int b = 0; b < 6; b++) {
            check.due("17: PAIR " + b + " by the HUT", one.placed(5, 10 + b), way[b]);
        }
        check.due("17: WET of all by the HUT", one.placed(5, 1), 5 * 80 + 99 - 5 * 19);
        check.due("17: none is DRY", one.placed(5, 0), 0);
    }

    private static void placedOfTaken() {
        BootsStove x = new BootsStove();
        x.pair(0, 0, 0);
        x.pair(0, 0, 50);
        x.pair(0, 0, 60);
        x.take(0, true);
        x.take(2, true);
        check.due("17: TAKEN ones are not counted", x.placed(1, 0), 0);
        check.due("17: nor their WET", x.placed(1, 1), 40);
        check.due("17: a TAKEN one needs a PLACE, PAIR 0", x.placed(1, 10), 1);
        check.due("17: PAIR 1 has the warmest", x.placed(1, 11), 0);
        check.due("17: a TAKEN one needs a PLACE, PAIR 2", x.placed(1, 12), 2);
    }

    private static void promise18() {
        BootsStove x = new BootsStove();
        check.due("18: no PAIRS", x.change(), -5);
        x.pair(0, 0, 50);
        check.due("18: one", x.change(), -5);
        x.pair(0, 0, 50);
        // alike: neither way is less
        check.due("18: none is less", x.change(), -5);
        // HEAT 10: PLACE 0 dries 45 by then, PLACE 1 27 (7 6 5 4 3 2), PLACE 2 10 (4 3 2 1), PLACE 3 1
        x.wet(0, 27);
        check.due("18: the drier had best be at 1", x.change(), 1);
        x.put(0, 1);
        check.due("18: so it is", x.change(), -5);
        x.pair(0, 0, 99);
        // 0 at 1 with 27, 1 at 0 with 50, 2 at 2 with 99: 0 + 5 + 89; 0 and 2: 17 + 5 + 72; 1 and 2: 0 + 40 + 54
        check.due("18: three, all 94", x.change(), -5);
        x.wet(0, 10);
        // 0 + 5 + 89 = 94; 0 and 1: 0 + 23 + 89; 0 and 2: 0 + 5 + 72 = 77; 1 and 2: 0 + 40 + 54 = 94
        check.due("18: 0 and 2", x.change(), 2);
        check.due("18: nothing changed", x.told(0) + x.of(0, 3) + x.of(2, 3), 3);
        changeByLittle();

        BootsStove several = new BootsStove();
        several.pair(0, 0, 1);
        several.pair(0, 0, 1);
        several.pair(0, 0, 99);
        several.pair(0, 0, 99);
        several.put(0, 4);
        several.put(1, 5);
        several.put(2, 2);
        several.put(3, 3);
        Check.hut(several, "dry 9 p>3");
        // 4 and 5 dry 54 by then, 3 dries 1, 2 dries 10; 0 and 1 had best be at 3, 2 and 3 at 4 or 5
        check.due("18: of several the first", several.change(), 3);
    }

    private static void changeByLittle() {
        BootsStove x = new BootsStove();
        x.pair(0, 0, 0);
        x.pair(0, 0, 0);
        x.pair(0, 0, 26);
        x.pair(0, 0, 99);
        x.put(2, 1);
        x.put(3, 0);
        // 3 at 0 by 45, 2 at 1 by 27: only the last of six HOURS makes 27 of 25
        check.due("18: as it is is best", x.change(), -5);
        x.put(3, 1);
        // 2 at 0 with 26, 3 at 1: 0 + 72; changed 0 + 54
        check.due("18: 2 and 3", x.change(), 23);
        x.wet(3, 27);
        // 0 + 0 either way
        check.due("18: none is less", x.change(), -5);
        x.wet(3, 28);
        check.due("18: by 1", x.change(), 23);
        x.take(2, true);
        check.due("18: by 1 with a TAKEN one", x.change(), 23);
        x.take(2, false);
        x.wet(2, 28);
        x.wet(3, 0);
        x.put(2, 1);
        // 2 at 1 by 27: 1; at 0 none
        check.due("18: by 1 in six HOURS", x.change(), 23);
        x.wet(2, 26);
        check.due("18: 26 are gone in six HOURS", x.change(), -5);
        x.wet(2, 27);
        check.due("18: so are 27", x.change(), -5);
    }

    private static void changeOfTaken() {
        BootsStove x = new BootsStove();
        x.pair(0, 0, 99);
        x.pair(0, 0, 99);
        x.take(0, true);
        check.due("18: a TAKEN one gives its PLACE", x.change(), 1);
        x.take(1, true);
        check.due("18: none is here", x.change(), -5);
        x.take(0, false);
        check.due("18: the one here has the best", x.change(), -5);
    }

    private static void promise19() {
        BootsStove x = new BootsStove();
        check.due("19: no PAIRS", x.logs(3, 0), 0);
        check.due("19: no WET", x.logs(3, 1), 0);
        check.due("19: what 2", x.logs(3, 2), BootsStove.NONE);
        check.due("19: what -1", x.logs(3, -1), BootsStove.NONE);
        check.due("19: what is named first", x.logs(0, 2), BootsStove.NONE);
        check.due("19: n 0", x.logs(0, 0), BootsStove.BAD);
        check.due("19: n 7", x.logs(7, 0), BootsStove.BAD);
        check.due("19: n -1", x.logs(-1, 1), BootsStove.BAD);
        x.pair(0, 0, 99);
        // HEAT 10: 16 15 14; 22 21 20; 28 27 26
        check.due("19: one HOUR", x.logs(1, 0), 1);
        check.due("19: 99 less 16", x.logs(1, 1), 83);
        check.due("19: two", x.logs(2, 0), 3);
        check.due("19: 99 less 16, 21", x.logs(2, 1), 62);
        check.due("19: three", x.logs(3, 0), 7);
        check.due("19: 99 less 16, 21, 26", x.logs(3, 1), 36);
        check.due("19: three are all the WOOD", x.logs(4, 0), 7);
        x.set(1, 1);
        check.due("19: one log is best burnt now", x.logs(6, 0), 1);
        x.set(1, 0);
        check.due("19: no WOOD", x.logs(6, 0), 0);
        check.due("19: 99 less 10 9 8 7 6 5", x.logs(6, 1), 54);
        check.due("19: nothing changed", x.told(0) + x.told(1) + x.told(2), 10);
    }

    private static void logsOfFew() {
        BootsStove x = new BootsStove();
        x.pair(0, 0, 27);
        check.due("19: 27 by 10 9 8, no log", x.logs(3, 0), 0);
        x.wet(0, 30);
        check.due("19: 3 more by one log, at HOUR 0", x.logs(3, 0), 1);
        x.set(0, 30);
        x.wet(0, 99);
        // 30 29 28 27 26 25; a log at HOUR 1 makes 30 of 29, and so on: at 5 HOURS no more than 30
        check.due("19: 30 at most, at HOUR 1", x.logs(2, 0), 2);
        check.due("19: 99 less 60", x.logs(2, 1), 39);
        x.wet(0, 88);
        // 30 29 28 is 87; 88 goes by any one log at HOUR 1 or 2, with 1 more
        check.due("19: of several the least as bits", x.logs(3, 0), 2);
        BootsStove spare = new BootsStove();
        spare.pair(1, 0, 40);
        spare.set(0, 8);
        // LEATHER by 8 7 6 5 4 3; with a log 14 is halved: 7 6 6 5 5 4 ..
        check.due("19: LEATHER by WARM 8, no log", spare.logs(1, 0), 0);
        spare.take(0, true);
        check.due("19: TAKEN", spare.logs(3, 0), 0);
        check.due("19: no WET of TAKEN", spare.logs(3, 1), 0);
        spare.take(0, false);
        Check.hut(spare, "log 22;cool 0");
        check.due("19: LOG of the HUT", spare.logs(2, 1), 10);
        check.due("19: both HOURS by one log", spare.logs(2, 0), 1);
        BootsStove six = new BootsStove();
        six.pair(0, 0, 99);
        six.set(1, 9);
        Check.hut(six, "log 1;cool 1");
        check.due("19: six HOURS, six logs", six.logs(6, 0), 63);
    }
}
