/** "Terms" 2, sentence by sentence: ON, DONE, NIGHT, PLACED, CHANGE, LOGS. */
public final class EdgesOfAskedTest {
    private static final Check check = new Check();
    private static final int NONE = BootsStove.NONE, BAD = BootsStove.BAD;
    /** One DRIES 1 an HOUR, wherever it is, by no HEAT. */
    private static final String SLOW = "dry 1 b<9;cool 0";

    public static void main(String[] args) {
        beyond();
        beyondPlaces();
        on();
        onWhat();
        done();
        night();
        placedHours();
        placedMost();
        placedLeast();
        placedFirst();
        placedFew();
        changeHours();
        changeFirst();
        changeNumbers();
        changeNone();
        logsHours();
        logsWood();
        logsFewest();
        logsBits();
        check.end("EdgesOfAskedTest");
    }

    private static BootsStove house(String hut, int heat, int... wets) {
        BootsStove x = new BootsStove();
        for (int wet : wets) {
            x.pair(0, 0, wet);
        }
        x.set(0, heat);
        check.due(hut, Check.hut(x, hut), 0);
        return x;
    }

    /** HOUR 9999, a LEATHER one at 0 with 9999 CRACKS, another at 1; HEAT 10 for good. */
    private static BootsStove late() {
        BootsStove x = new BootsStove();
        x.pair(1, 0, 0);
        x.pair(0, 0, 0);
        Check.hut(x, "cool 0");
        for (int n = 0; n < 166; n++) {
            x.pass(60);
        }
        x.pass(39);
        x.wet(0, 40);
        x.wet(1, 40);
        return x;
    }

    private static void beyond() {
        check.sentence("goes on from how all is (HOURS, CRACKS beyond 9999, too), and changes nothing");
        BootsStove x = late();
        // LEATHER by 5, the other by 7
        check.due("14: CRACKS behind 0", x.on(0, 2), 9999);
        check.due("14: CRACKS behind 60", x.on(60, 2), 10059);
        check.due("14: WET behind 2", x.on(2, 0), 30 + 26);
        check.due("14: HEAT behind 60", x.on(60, 1), 10);
        check.due("15: eight by 5", x.done(0), 8);
        check.due("15: six by 7", x.done(1), 6);
        check.due("16: none behind 5", x.night(5), 0);
        check.due("16: one behind 6", x.night(6), 1);
        check.due("16: both behind 12", x.night(12), 2);
        x.rota(0, 0);
        x.rota(0, 0);
        check.due("27: WET", x.ends(0), 30 + 26);
        check.due("27: CRACKS", x.ends(1), 10001);
        x.see(0, 35, 1);
        check.due("21: 40 alone", x.wets(0, 0) * 100 + x.wets(0, 1), 140);
        check.due("22: any v", x.can(0, 0) * 100 + x.can(0, 1), 1000);
        x.see(1, 33, 1);
        check.due("23: at 1 alone", x.where(1), 2);
        check.due("24: both of 33 and 35", x.odds(1, 35, 0) * 10 + x.odds(1, 35, 1), 11);
        check.due("24: one of 33 and 35", x.odds(1, 34, 0) * 10 + x.odds(1, 34, 1), 12);
        check.due("25: 68 by 2", x.mean(1, 0) * 10 + x.mean(1, 1), 341);
        check.due("HOUR", x.told(0), 9999);
        check.due("CRACKS", x.told(6), 9999);
        check.due("WET", x.told(5), 80);
        check.due("none may go", x.pass(1), BootsStove.STATE);
    }

    private static void beyondPlaces() {
        BootsStove x = late();
        // by PLACE: LEATHER 5 7 4 1, the other 10 7 4 1
        check.due("17: both", x.placed(6, 0), 2);
        check.due("17: none is WET", x.placed(6, 1), 0);
        check.due("17: LEATHER at 1", x.placed(6, 10), 1);
        check.due("17: the other at 0", x.placed(6, 11), 0);
        check.due("18: 10 are left as it is", x.change(), 1);
        // by HEAT 16: 8 and 13
        check.due("19: a log", x.logs(1, 0), 1);
        check.due("19: 32 and 27", x.logs(1, 1), 59);
        check.due("HOUR", x.told(0), 9999);
    }

    private static void on() {
        check.sentence("ON n HOURS (0 .. 60)");
        BootsStove x = house(SLOW, 0, 99);
        for (int n : new int[] {0, 1, 2, 59, 60}) {
            check.due("behind " + n, x.on(n, 10), 99 - n);
            check.due("of all behind " + n, x.on(n, 0), 99 - n);
        }
        check.due("61", x.on(61, 10), BAD);
        check.due("-1", x.on(-1, 10), BAD);
        BootsStove y = house("cool 1", 30, 0);
        check.due("HEAT behind 0", y.on(0, 1), 30);
        check.due("HEAT behind 29", y.on(29, 1), 1);
        check.due("HEAT behind 30", y.on(30, 1), 0);
        check.due("HEAT behind 31", y.on(31, 1), 0);
        BootsStove z = new BootsStove();
        z.pair(1, 0, 0);
        z.pair(1, 0, 0);
        Check.hut(z, "cool 0");
        z.set(0, 12);
        check.due("CRACKS behind 0", z.on(0, 2), 0);
        check.due("CRACKS of all behind 60", z.on(60, 2), 120);
        z.take(0, true);
        check.due("CRACKS of the one that is not TAKEN", z.on(60, 2), 60);
        z.pass(1);
        z.take(1, true);
        check.due("CRACKS of the TAKEN ones", z.on(60, 2), 1);
        check.sentence("WET of all that are not TAKEN, together");
        check.due("none is here", z.on(0, 0), 0);
    }

    private static void onWhat() {
        check.sentence("what 0 WET of all that are not TAKEN, 1 HEAT, 2 CRACKS of all, 10 and b WET of PAIR b. NONE");
        BootsStove none = new BootsStove();
        check.due("0 of none", none.on(60, 0), 0);
        check.due("2 of none", none.on(60, 2), 0);
        check.due("10 of none", none.on(60, 10), NONE);
        BootsStove x = house(SLOW, 0, 10, 20, 30, 40, 50, 60);
        x.take(3, true);
        for (int b = 0; b < 6; b++) {
            check.due("PAIR " + b, x.on(5, 10 + b), 10 * b + (b == 3 ? 10 : 5));
        }
        check.due("without the TAKEN one", x.on(5, 0), 210 - 40 - 25);
        for (int what : new int[] {-1, 3, 4, 9, 16, 17}) {
            check.due("what " + what, x.on(5, what), NONE);
        }
    }

    private static void done() {
        check.sentence("DONE of a PAIR: the fewest HOURS (0 .. 60) behind which it is DRY (-5: not by then).");
        BootsStove x = house(SLOW, 0, 0);
        for (int wet : new int[] {0, 1, 2, 59, 60}) {
            x.wet(0, wet);
            check.due("WET " + wet, x.done(0), wet);
        }
        x.wet(0, 61);
        check.due("WET 61", x.done(0), -5);
        x.wet(0, 99);
        check.due("WET 99", x.done(0), -5);
        x.take(0, true);
        x.wet(0, 1);
        check.due("a TAKEN one", x.done(0), -5);
        x.wet(0, 0);
        check.due("a TAKEN one that is DRY", x.done(0), 0);
        check.due("no PAIR", x.done(1), NONE);
    }

    private static void night() {
        check.sentence("NIGHT of n HOURS (0 .. 12): how many, not TAKEN, are DRY behind them.");
        BootsStove x = house(SLOW, 0, 0, 1, 2, 11, 12, 13);
        int[] due = {1, 2, 3, 3, 3, 3, 3, 3, 3, 3, 3, 4, 5};
        for (int n = 0; n <= 12; n++) {
            check.due("behind " + n, x.night(n), due[n]);
        }
        check.due("13", x.night(13), BAD);
        check.due("-1", x.night(-1), BAD);
        x.take(0, true);
        check.due("without the TAKEN one", x.night(12), 4);
        x.take(0, false);
        x.wet(5, 12);
        check.due("all six", x.night(12), 6);
        for (int b = 0; b < 6; b++) {
            x.take(b, true);
        }
        check.due("all are TAKEN", x.night(12), 0);
        check.due("there are none", new BootsStove().night(12), 0);
        check.due("there are none", new BootsStove().night(0), 0);
    }

    private static void placedHours() {
        check.sentence("PLACED for n HOURS (1 .. 12)");
        BootsStove x = house(SLOW, 0, 1, 12);
        check.due("0", x.placed(0, 0), BAD);
        check.due("13", x.placed(13, 0), BAD);
        check.due("many behind 1", x.placed(1, 0), 1);
        check.due("WET behind 1", x.placed(1, 1), 11);
        check.due("many behind 11", x.placed(11, 0), 1);
        check.due("WET behind 11", x.placed(11, 1), 1);
        check.due("many behind 12", x.placed(12, 0), 2);
        check.due("WET behind 12", x.placed(12, 1), 0);
    }

    private static void placedMost() {
        check.sentence("that by which most, not TAKEN, are DRY behind n");
        // PLACE 5 takes 10, PLACE 4 takes 9; others none
        BootsStove x = house("dry 10 p=5;dry 9 p=4;cool 99", 0, 10, 99);
        check.due("one", x.placed(1, 0), 1);
        check.due("it has PLACE 5", x.placed(1, 10), 5);
        check.due("the other has PLACE 4", x.placed(1, 11), 4);
        check.due("99 less 9", x.placed(1, 1), 90);
        x.wet(0, 9);
        check.due("PLACE 4 makes it DRY too, and of these 5 for the other is less WET", x.placed(1, 10) * 10 + x.placed(1, 11), 45);
        check.due("99 less 10", x.placed(1, 1), 89);
        x.wet(0, 11);
        check.due("none can be", x.placed(1, 0), 0);
        check.due("110 less 19", x.placed(1, 1), 91);
        check.due("of several the first", x.placed(1, 10) * 10 + x.placed(1, 11), 45);
        x.wet(0, 10);
        x.take(0, true);
        check.due("a TAKEN one is not counted", x.placed(1, 0), 0);
        check.due("the one here has PLACE 5", x.placed(1, 11), 5);
        check.due("the TAKEN one has the first that is left", x.placed(1, 10), 0);
        // PLACE 1 makes 90 less of 99, or 0 of 1
        BootsStove y = house("dry 90 b=0&p=1;dry 1 b=1&p=1;cool 0", 0, 99, 1);
        check.due("one that is DRY goes ahead of less WET", y.placed(1, 0), 1);
        check.due("so all of 99 is left", y.placed(1, 1), 99);
        check.due("PAIR 1 has PLACE 1", y.placed(1, 10) * 10 + y.placed(1, 11), 1);
    }

    private static void placedLeast() {
        check.sentence("of these that by which WET of all that are not TAKEN, together, is least");
        BootsStove x = house("cool 0", 10, 99, 99, 99);
        // PLACES 0 1 2 take 10 7 4
        check.due("297 less 21", x.placed(1, 1), 276);
        x.take(1, true);
        check.due("198 less 17", x.placed(1, 1), 181);
        check.due("the TAKEN one gives way", x.placed(1, 10) * 100 + x.placed(1, 11) * 10 + x.placed(1, 12), 21);
    }

    private static void placedFirst() {
        check.sentence("of all ways to have all PAIRS on 6 PLACES, no two one");
        // PLACE b + 1 (0 behind 5) alone takes 9 of PAIR b
        BootsStove x = house("dry 9 b=0&p=1|b=1&p=2|b=2&p=3;dry 9 b=3&p=4|b=4&p=5|b=5&p=0", 0, 9, 9, 9, 9, 9, 9);
        check.due("all six", x.placed(1, 0), 6);
        for (int b = 0; b < 6; b++) {
            check.due("PAIR " + b, x.placed(1, 10 + b), (b + 1) % 6);
        }
        BootsStove last = house("dry 9 b=0&p=5|b=1&p=4|b=2&p=3;dry 9 b=3&p=2|b=4&p=1|b=5&p=0", 0, 9, 9, 9, 9, 9, 9);
        check.due("all six", last.placed(1, 0), 6);
        for (int b = 0; b < 6; b++) {
            check.due("the last of all ways, PAIR " + b, last.placed(1, 10 + b), 5 - b);
        }
        check.sentence("of several the first as a row by PAIRS");
        BootsStove y = house(SLOW, 0, 9, 9, 9, 9, 9, 9);
        for (int b = 0; b < 6; b++) {
            y.put(b, 0);
        }
        for (int b = 0; b < 6; b++) {
            check.due("all are alike, PAIR " + b, y.placed(1, 10 + b), b);
        }
        // one of 0 and 1 can have PLACE 3: the row 0 3 comes ahead of 3 0
        BootsStove z = house("dry 5 p=3", 0, 9, 9);
        check.due("PAIR 0", z.placed(1, 10), 0);
        check.due("PAIR 1", z.placed(1, 11), 3);
    }

    private static void placedFew() {
        check.sentence("of all ways to have all PAIRS on 6 PLACES");
        BootsStove none = new BootsStove();
        check.due("there are none: none is DRY", none.placed(12, 0), 0);
        check.due("there are none: none is WET", none.placed(12, 1), 0);
        check.due("there are none: no PLACE", none.placed(12, 10), NONE);
        for (int p = 0; p < 6; p++) {
            BootsStove one = house("dry 9 p=" + p + ";cool 9", 0, 9);
            check.due("one alone at " + p, one.placed(1, 10), p);
            check.due("it is DRY", one.placed(1, 0), 1);
        }
        BootsStove six = house(SLOW, 0, 9, 9, 9, 9, 9, 9);
        check.due("the sixth has one", six.placed(1, 15), 5);
        check.due("a seventh has none", six.placed(1, 16), NONE);
    }

    private static void changeHours() {
        check.sentence("CHANGE: .. so that WET of all that are not TAKEN behind 6 HOURS, together, is least, if less than it is");
        for (int hour = 0; hour <= 8; hour++) {
            BootsStove x = house("dry 9 p=1&h=" + hour, 0, 9, 0);
            check.due("by HOUR " + hour, x.change(), hour < 6 ? 1 : -5);
        }
        BootsStove y = house("dry 9 p=1&h=5", 0, 1, 0);
        check.due("by 1", y.change(), 1);
        y.wet(1, 1);
        check.due("by nothing", y.change(), -5);
        y.wet(0, 0);
        check.due("1 more", y.change(), -5);
    }

    private static void changeFirst() {
        check.sentence("of several the first");
        BootsStove x = house("dry 9 p=1&h=0", 0, 9, 0, 9);
        check.due("0 and 1, 1 and 2 are alike", x.change(), 1);
        x.wet(0, 8);
        check.due("1 and 2 is better by 1", x.change(), 12);
        x.wet(0, 9);
        x.wet(2, 8);
        check.due("0 and 1 is better by 1", x.change(), 1);
        BootsStove y = house("dry 9 p=3&h=0", 0, 9, 9, 9, 0, 9, 9);
        check.due("of five the first", y.change(), 3);
        y.take(0, true);
        check.due("of four the first", y.change(), 13);
        y.wet(5, 10);
        check.due("10 by 9 is no better", y.change(), 13);
    }

    private static void changeNumbers() {
        check.sentence("10 times the lesser and the greater number");
        for (int lesser = 0; lesser < 6; lesser++) {
            for (int greater = lesser + 1; greater < 6; greater++) {
                BootsStove x = house("dry 9 h=0&(b=" + greater + "&p=" + lesser + ")", 0, 9, 9, 9, 9, 9, 9);
                check.due(lesser + " and " + greater, x.change(), 10 * lesser + greater);
                x = house("dry 9 h=0&(b=" + lesser + "&p=" + greater + ")", 0, 9, 9, 9, 9, 9, 9);
                check.due(greater + " and " + lesser, x.change(), 10 * lesser + greater);
            }
        }
    }

    private static void changeNone() {
        check.sentence("-5: none");
        check.due("there are none", new BootsStove().change(), -5);
        BootsStove x = house("dry 9 p=1", 0, 99);
        check.due("one alone, though another PLACE were better", x.change(), -5);
        x.pair(0, 0, 0);
        check.due("two", x.change(), 1);
        x.take(0, true);
        check.due("the one that were better is TAKEN", x.change(), -5);
        x.take(0, false);
        x.take(1, true);
        check.due("with a TAKEN one", x.change(), 1);
        x.take(0, true);
        check.due("both are TAKEN", x.change(), -5);
    }

    private static void logsHours() {
        check.sentence("LOGS of n HOURS (1 .. 6): of all sets of those HOURS (as bits, bit k: one STOKES ahead of HOUR k from now on)");
        // a log warms one HOUR alone, and all but the last are damp
        for (int n = 1; n <= 6; n++) {
            BootsStove x = house("damp 30 h<" + (n - 1) + ";log 30;cool 30", 0, 20);
            for (int hours = 1; hours <= 6; hours++) {
                check.due(hours + " HOURS, dry by HOUR " + (n - 1), x.logs(hours, 0), hours < n ? 0 : 1 << n - 1);
                check.due("WET of " + hours + " HOURS", x.logs(hours, 1), hours < n ? 20 : 0);
            }
            check.due("0", x.logs(0, 0), BAD);
            check.due("7", x.logs(7, 0), BAD);
        }
        BootsStove later = house("log 30;cool 30;damp 30 h=1", 0, 20);
        later.pass(1);
        check.due("from now on: HOUR 1 is bit 0, 2 is bit 1", later.logs(2, 0), 2);
    }

    private static void logsWood() {
        check.sentence("that have no more than WOOD");
        int[] due = {0, 1, 3, 7, 15, 31, 63, 63, 63, 63};
        for (int wood = 0; wood <= 9; wood++) {
            BootsStove x = house("log 15;cool 30", 0, 99);
            x.set(1, wood);
            check.due("WOOD " + wood, x.logs(6, 0), due[wood]);
            check.due("WET by WOOD " + wood, x.logs(6, 1), Math.max(9, 99 - 15 * wood));
            check.due("WOOD stays", x.told(2), wood);
        }
    }

    private static void logsFewest() {
        check.sentence("of these that with the fewest (of several the least as bits)");
        BootsStove x = house("log 30;cool 30", 0, 25);
        check.due("any one log does", x.logs(3, 0), 1);
        x.wet(0, 0);
        check.due("no log does", x.logs(3, 0), 0);
        x.wet(0, 31);
        check.due("any two do", x.logs(3, 0), 3);
        // HOURS 0 and 1 take 15 each, HOUR 2 takes 30: bits 3 and bits 4 are as WET
        BootsStove y = house("damp 15 h<2;log 30;cool 30", 0, 30);
        check.due("one log, though more as bits", y.logs(3, 0), 4);
        y.wet(0, 31);
        check.due("two logs: 5 and 6 do", y.logs(3, 0), 5);
        y.wet(0, 60);
        check.due("all three", y.logs(3, 0), 7);
    }

    private static void logsBits() {
        check.sentence("LOG more (30 at most)");
        BootsStove x = house("cool 1;log 6", 30, 99);
        check.due("one HOUR: HEAT is 30 without", x.logs(1, 0), 0);
        check.due("two: 1 more by a log ahead of HOUR 1", x.logs(2, 0), 2);
        check.due("WET 99 less 60", x.logs(2, 1), 39);
        check.sentence("WET of all that are not TAKEN behind n, together");
        x.take(0, true);
        check.due("none is here", x.logs(6, 0), 0);
        check.due("none is WET", x.logs(6, 1), 0);
        BootsStove none = new BootsStove();
        check.due("there are none", none.logs(6, 0), 0);
        check.due("there are none", none.logs(6, 1), 0);
        // a log makes LEATHER worse, by WARM 8 and 14
        BootsStove leather = new BootsStove();
        leather.pair(1, 0, 99);
        leather.set(0, 8);
        check.due("a log is worse", leather.logs(1, 0), 0);
        check.due("99 less 8", leather.logs(1, 1), 91);
    }
}
