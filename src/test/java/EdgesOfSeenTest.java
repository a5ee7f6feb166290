/** "Terms" 2, sentence by sentence: SEEN, WETS, CAN, WHERE, ODDS, MEAN, the ROTA, the BOOK. */
public final class EdgesOfSeenTest {
    private static final Check check = new Check();
    private static final int NONE = BootsStove.NONE, BAD = BootsStove.BAD, FULL = BootsStove.FULL;
    /** One DRIES 1 an HOUR, wherever it is, by no HEAT. */
    private static final String SLOW = "dry 1 b<9;cool 0";

    public static void main(String[] args) {
        seenMany();
        seenBounds();
        seenFromNow();
        wets();
        wetsNone();
        can();
        where();
        whereOthers();
        oddsBounds();
        oddsLikely();
        oddsTaken();
        oddsNone();
        mean();
        meanBounds();
        rotaMany();
        rotaWhat();
        ends();
        bookMany();
        looked();
        check.end("EdgesOfSeenTest");
    }

    private static BootsStove house(String hut, int heat, int... wets) {
        BootsStove x = new BootsStove();
        for (int wet : wets) {
            x.pair(0, 0, wet);
        }
        x.set(0, heat);
        check.due(hut, Check.hut(x, hut), 0);
        return x;
    }

    private static void many(String call, BootsStove x, int pair, int many, int least) {
        check.due(call + ", how many", x.wets(pair, 0), many);
        check.due(call + ", the least", x.wets(pair, 1), least);
    }

    private static void seenMany() {
        check.sentence("SEEN told by hand: .. (5 at most)");
        BootsStove x = house(SLOW, 0, 50, 50);
        check.due("none", x.count(2), 0);
        for (int n = 1; n <= 5; n++) {
            check.due("so many", x.see(n % 2, 50 - n, n), n);
        }
        check.due("a sixth", x.see(0, 50, 0), FULL);
        check.due("five", x.count(2), 5);
        many("the fifth does, too", x, 1, 1, 50);
        check.sentence("(pair -1: none then, 0, whatever the others are)");
        check.due("none then", x.see(-1, 100, 21), 0);
        check.due("none", x.count(2), 0);
        many("of none all are so", x, 1, 100, 0);
        check.due("none then again", x.see(-1, -1, Integer.MIN_VALUE), 0);
        for (int n = 1; n <= 4; n++) {
            x.see(0, 50, 0);
        }
        check.due("a fifth, that does", x.see(1, 7, 0), 5);
        many("the fifth does", x, 1, 1, 7);
        check.due("it does for WHERE", x.where(0), 0);
        check.due("none then, without PAIRS", new BootsStove().see(-1, 0, 0), 0);
    }

    private static void seenBounds() {
        check.sentence("a PAIR, WET (0 .. 99) behind n HOURS (0 .. 20) from now");
        BootsStove x = house(SLOW, 0, 99, 50, 50, 50, 50, 50);
        check.due("PAIR 5", x.see(5, 50, 0), 1);
        check.due("PAIR 6", x.see(6, 50, 0), NONE);
        check.due("PAIR -2", x.see(-2, 50, 0), NONE);
        check.due("WET 100", x.see(0, 100, 0), BAD);
        check.due("WET -1", x.see(0, -1, 0), BAD);
        check.due("21", x.see(0, 0, 21), BAD);
        check.due("-1", x.see(0, 0, -1), BAD);
        check.due("WET 99, now", x.see(0, 99, 0), 2);
        many("99 now", x, 0, 1, 99);
        check.due("79 behind 20", x.see(0, 79, 20), 3);
        many("that is so, too", x, 0, 1, 99);
        check.due("80 behind 20", x.see(0, 80, 20), 4);
        many("that is not", x, 0, 0, -5);
        x.see(-1, 0, 0);
        check.due("WET 0 behind 20", x.see(0, 0, 20), 1);
        many("0 .. 20", x, 0, 21, 0);
        check.due("WET 1 behind 19", x.see(0, 1, 19), 2);
        many("20", x, 0, 1, 20);
    }

    private static void seenFromNow() {
        check.sentence("behind n HOURS (0 .. 20) from now");
        BootsStove x = house("dry 5 h=2;dry 3 h=5;cool 0", 0, 50);
        x.see(0, 42, 3);
        many("HOURS 0 1 2 take 5", x, 0, 1, 47);
        x.pass(1);
        many("1 2 3 take 5", x, 0, 1, 47);
        x.pass(2);
        many("3 4 5 take 3", x, 0, 1, 45);
        x.pass(3);
        many("6 7 8 take none", x, 0, 1, 42);
    }

    private static void wets() {
        check.sentence("WETS of a PAIR: how many numbers (0 .. 99) there are by which, were that its WET now, all of SEEN that is of it is so");
        BootsStove x = house(SLOW, 0, 50, 50);
        many("nothing is SEEN", x, 0, 100, 0);
        x.see(0, 0, 0);
        many("0", x, 0, 1, 0);
        x.see(-1, 0, 0);
        x.see(0, 99, 0);
        many("99", x, 0, 1, 99);
        many("of the other nothing is SEEN", x, 1, 100, 0);
        x.see(1, 3, 1);
        many("that is of the other", x, 0, 1, 99);
        many("4", x, 1, 1, 4);
        x.see(0, 0, 5);
        many("both are of it", x, 0, 0, -5);
        check.due("its WET is as it was", x.of(0, 2), 50);
        x.take(1, true);
        many("a TAKEN one stays as WET", x, 1, 1, 3);
    }

    private static void wetsNone() {
        check.sentence("the least (-5: none)");
        BootsStove x = house(SLOW, 0, 50);
        x.see(0, 99, 1);
        many("100 there is not", x, 0, 0, -5);
        x.see(-1, 0, 0);
        x.see(0, 98, 1);
        many("99 there is", x, 0, 1, 99);
        BootsStove y = new BootsStove();
        y.pair(3, 9, 50);
        y.set(0, 0);
        y.see(0, 41, 1);
        many("STUFFED: 41, or 50 by 9", y, 0, 2, 41);
        y.see(-1, 0, 0);
        y.see(0, 49, 1);
        many("STUFFED: 49, or 58 by 9", y, 0, 2, 49);
        y.see(-1, 0, 0);
        y.see(0, 50, 1);
        many("STUFFED: 59 by 9", y, 0, 1, 59);
    }

    private static void can() {
        check.sentence("CAN of one: how many numbers v (0 .. 9) likewise; the least (-5: none).");
        BootsStove x = new BootsStove();
        x.pair(3, 4, 50);
        x.pair(3, 4, 50);
        x.set(0, 0);
        check.due("nothing is SEEN", x.can(0, 0), 10);
        check.due("nothing is SEEN", x.can(0, 1), 0);
        // v of 10 would be 40
        for (int v = 0; v <= 10; v++) {
            x.see(-1, 0, 0);
            x.see(0, 50 - v, 1);
            check.due("how many, " + v, x.can(0, 0), v < 10 ? 1 : 0);
            check.due("the least, " + v, x.can(0, 1), v < 10 ? v : -5);
            check.due("of the other nothing is SEEN", x.can(1, 0), 10);
        }
        x.see(-1, 0, 0);
        x.see(0, 51, 1);
        check.due("v of -1 there is not", x.can(0, 0), 0);
        check.due("v of -1 there is not", x.can(0, 1), -5);
        x.see(-1, 0, 0);
        x.see(0, 45, 1);
        x.see(0, 40, 2);
        check.due("5 alone, but 45 takes no v", x.can(0, 0), 0);
        x.see(-1, 0, 0);
        x.see(0, 45, 1);
        x.see(0, 45, 2);
        check.due("5", x.can(0, 1), 5);
        check.due("its v is as it was", x.of(0, 1), 4);
        BootsStove y = new BootsStove();
        y.pair(5, 0, 5);
        y.set(0, 2);
        y.see(0, 5, 1);
        check.due("SOCKS of WET 5: v 6 .. 9", y.can(0, 0) * 10 + y.can(0, 1), 46);
    }

    private static void where() {
        check.sentence("WHERE of one: those PLACES, as bits, by which, were it there now, all of SEEN is so.");
        BootsStove x = new BootsStove();
        x.pair(0, 0, 50);
        x.set(0, 16);
        check.due("nothing is SEEN", x.where(0), 63);
        int[] warm = {16, 13, 10, 7, 4, 1};
        for (int p = 0; p < 6; p++) {
            x.see(-1, 0, 0);
            x.see(0, 50 - warm[p], 1);
            check.due("at " + p, x.where(0), 1 << p);
            x.see(-1, 0, 0);
            x.see(0, 51 - warm[p], 1);
            check.due("nowhere, near " + p, x.where(0), 0);
        }
        x.see(-1, 0, 0);
        x.see(0, 50, 0);
        check.due("anywhere", x.where(0), 63);
        x.see(0, 49, 0);
        check.due("nowhere", x.where(0), 0);
        check.due("its PLACE is as it was", x.of(0, 3), 0);
        x.see(-1, 0, 0);
        x.take(0, true);
        x.see(0, 50, 20);
        check.due("a TAKEN one, anywhere", x.where(0), 63);
    }

    private static void whereOthers() {
        check.sentence("(who is there has its own)");
        BootsStove x = house("cool 0", 16, 50, 50, 50);
        x.see(0, 50 - 13, 1);
        check.due("PAIR 0 at 1", x.where(0), 2);
        check.due("PAIR 1 at 0, so that 0 is at 1", x.where(1), 1);
        check.due("PAIR 2 nowhere: 0 would be at 2, or where it is", x.where(2), 0);
        x.see(2, 50 - 10, 1);
        check.due("both, PAIR 0 at 1", x.where(0), 2);
        x.see(1, 50 - 16, 1);
        check.due("all three, PAIR 0 at 1", x.where(0), 2);
        check.due("all three, PAIR 1 at 0", x.where(1), 1);
        x.see(1, 50 - 26, 1);
        check.due("never", x.where(1), 0);
    }

    private static void fraction(String call, long above, long below, long a, long b) {
        check.due(call + ", above", above, a);
        check.due(call + ", below", below, b);
    }

    private static void odds(String call, BootsStove x, int n, int q, int a, int b) {
        fraction(call, x.odds(n, q, 0), x.odds(n, q, 1), a, b);
    }

    private static void mean(String call, BootsStove x, int n, int a, int b) {
        fraction(call, x.mean(n, 0), x.mean(n, 1), a, b);
    }

    private static void oddsBounds() {
        check.sentence("ODDS of n HOURS (0 .. 60) and q (0 .. 999)");
        BootsStove x = house(SLOW, 0, 99, 61);
        odds("behind 0: 61 or 99", x, 0, 61, 1, 2);
        odds("behind 0: 60", x, 0, 60, 0, 1);
        odds("behind 59: 2 or 40", x, 59, 1, 0, 1);
        odds("behind 59: 2 or 40", x, 59, 2, 1, 2);
        odds("behind 60: 1 or 39", x, 60, 0, 0, 1);
        odds("behind 60: 1 or 39", x, 60, 1, 1, 2);
        odds("behind 60: 1 or 39", x, 60, 38, 1, 2);
        odds("behind 60: 1 or 39", x, 60, 39, 1, 1);
        odds("q 999", x, 0, 999, 1, 1);
        for (int part = 0; part < 2; part++) {
            check.due("61", x.odds(61, 0, part), BootsStove.NO);
            check.due("-1", x.odds(-1, 0, part), BootsStove.NO);
            check.due("q 1000", x.odds(0, 1000, part), BootsStove.NO);
            check.due("q -1", x.odds(0, -1, part), BootsStove.NO);
        }
        check.due("part -1", x.odds(0, 0, -1), BootsStove.NO);
        check.due("part 2", x.odds(0, 0, 2), BootsStove.NO);
        x.wet(0, 60);
        x.wet(1, 60);
        odds("q 0", x, 60, 0, 1, 1);
        odds("q 0", x, 59, 0, 0, 1);
    }

    private static void oddsLikely() {
        check.sentence("WET of all others that are not, together, is q or less behind n: a fraction in lowest terms");
        BootsStove x = house(SLOW, 0, 10, 20, 30, 40, 50, 60);
        // 200 190 180 170 160 150
        int[][] due = {{149, 0, 1}, {150, 1, 6}, {159, 1, 6}, {160, 1, 3}, {169, 1, 3}, {170, 1, 2}, {179, 1, 2}, {180, 2, 3}, {189, 2, 3},
            {190, 5, 6}, {199, 5, 6}, {200, 1, 1}};
        for (int[] row : due) {
            odds("q " + row[0], x, 0, row[0], row[1], row[2]);
        }
        BootsStove four = house(SLOW, 0, 10, 20, 30, 40);
        odds("2 by 4", four, 0, 79, 1, 2);
        odds("3 by 4", four, 0, 80, 3, 4);
        odds("4 by 4", four, 0, 90, 1, 1);
        odds("1 by 4", four, 0, 60, 1, 4);
        BootsStove one = house(SLOW, 0, 99);
        odds("there is no other", one, 0, 0, 1, 1);
        BootsStove most = house(SLOW, 0, 99, 99, 99, 99, 99, 99);
        odds("495", most, 0, 494, 0, 1);
        odds("495", most, 0, 495, 1, 1);
    }

    private static void oddsTaken() {
        check.sentence("if one PAIR, each alike likely, is TAKEN from now on");
        BootsStove x = house(SLOW, 0, 10, 20, 30);
        x.take(0, true);
        // 50 by the TAKEN one, 30, 20
        odds("19", x, 0, 19, 0, 1);
        odds("20", x, 0, 20, 1, 3);
        odds("30", x, 0, 30, 2, 3);
        odds("49", x, 0, 49, 2, 3);
        odds("50", x, 0, 50, 1, 1);
        odds("behind 5: 40, 25, 15", x, 5, 15, 1, 3);
        x.take(1, true);
        x.take(2, true);
        odds("all are TAKEN already", x, 0, 0, 1, 1);
    }

    private static void oddsNone() {
        check.sentence("(NO: there are none)");
        BootsStove x = new BootsStove();
        for (int part = 0; part < 2; part++) {
            check.due("ODDS", x.odds(0, 999, part), BootsStove.NO);
            check.due("MEAN", x.mean(0, part), BootsStove.NO);
        }
        x.image();
        x.pair(0, 0, 0);
        odds("one", x, 0, 0, 1, 1);
        mean("one", x, 0, 0, 1);
        x.undo();
        check.due("none again", x.odds(0, 0, 1), BootsStove.NO);
        check.due("none again", x.mean(0, 1), BootsStove.NO);
    }

    private static void mean() {
        check.sentence("MEAN .. : WET of all behind n, TAKEN or not, together, by how many they are: a fraction in lowest terms");
        BootsStove x = house(SLOW, 0, 0, 0, 0, 0, 0, 0);
        int[][] due = {{0, 0, 1}, {1, 1, 6}, {2, 1, 3}, {3, 1, 2}, {4, 2, 3}, {5, 5, 6}, {6, 1, 1}, {7, 7, 6}, {8, 4, 3}, {9, 3, 2}, {99, 33, 2}};
        for (int[] row : due) {
            x.wet(3, row[0]);
            mean(row[0] + " by 6", x, 0, row[1], row[2]);
        }
        x.take(3, true);
        mean("a TAKEN one is WET, too", x, 0, 33, 2);
        mean("it does not dry", x, 60, 33, 2);
        BootsStove most = house(SLOW, 0, 99, 99, 99, 99, 99, 99);
        mean("594 by 6", most, 0, 99, 1);
        mean("behind 60", most, 60, 39, 1);
        mean("99 by 1", house(SLOW, 0, 99), 0, 99, 1);
    }

    private static void meanBounds() {
        check.sentence("MEAN of n HOURS (0 .. 60)");
        BootsStove x = house(SLOW, 0, 99, 62);
        mean("0", x, 0, 161, 2);
        mean("1", x, 1, 159, 2);
        mean("59", x, 59, 43, 2);
        mean("60", x, 60, 41, 2);
        for (int part = 0; part < 2; part++) {
            check.due("61", x.mean(61, part), BootsStove.NO);
            check.due("-1", x.mean(-1, part), BootsStove.NO);
        }
        check.due("part -1", x.mean(0, -1), BootsStove.NO);
        check.due("part 2", x.mean(0, 2), BootsStove.NO);
    }

    private static void rotaMany() {
        check.sentence("A ROTA told by hand: .. 10 rows at most");
        BootsStove x = house(SLOW, 0, 99);
        for (int n = 1; n <= 10; n++) {
            check.due("so many", x.rota(0, 0), n);
            check.due("each goes", x.ends(0), 99 - n);
        }
        check.due("an 11th", x.rota(0, 0), FULL);
        check.due("ten", x.count(3), 10);
        check.due("ten go", x.ends(0), 89);
        check.sentence("(what -1: it is empty then, 0, whatever the other is)");
        check.due("empty then", x.rota(-1, 77), 0);
        check.due("none", x.count(3), 0);
        check.due("none goes", x.ends(0), 99);
        check.due("one again", x.rota(0, 0), 1);
        check.due("empty then", x.rota(-1, Integer.MIN_VALUE), 0);
        check.due("empty still", x.rota(-1, 0), 0);
        check.due("without PAIRS", new BootsStove().rota(-1, 0), 0);
    }

    private static void rotaWhat() {
        check.sentence("NONE: what (0 .. 3), PAIR (by 2, 3; by 0, 1 n does not matter)");
        BootsStove x = house(SLOW, 0, 50, 50, 50, 50, 50);
        check.due("what -2", x.rota(-2, 0), NONE);
        check.due("what 4", x.rota(4, 0), NONE);
        check.due("PAIR 4 by 2", x.rota(2, 4), 1);
        check.due("PAIR 4 by 3", x.rota(3, 4), 2);
        check.due("PAIR 0 by 2", x.rota(2, 0), 3);
        check.due("PAIR 0 by 3", x.rota(3, 0), 4);
        check.due("PAIR 5 by 2", x.rota(2, 5), NONE);
        check.due("PAIR 5 by 3", x.rota(3, 5), NONE);
        check.due("PAIR -1 by 2", x.rota(2, -1), NONE);
        check.due("PAIR -1 by 3", x.rota(3, -1), NONE);
        int row = 4;
        for (int n : new int[] {-1, 5, Integer.MAX_VALUE, Integer.MIN_VALUE}) {
            row++;
            check.due("n " + n + " by 0", x.rota(0, n), row);
        }
        x.rota(-1, 0);
        for (int n : new int[] {-1, 5, Integer.MAX_VALUE, Integer.MIN_VALUE}) {
            check.due("n " + n + " by 1", x.rota(1, n) > 0 ? 1 : 0, 1);
        }
        check.due("four", x.count(3), 4);
        check.due("three logs, then no WOOD: WET as it was", x.ends(0), 250);
    }

    private static void ends() {
        check.sentence("0 an HOUR, 1 one STOKES, if there is WOOD, 2 PAIR n is TAKEN, 3 it is not");
        BootsStove x = house("log 3;cool 0", 0, 99);
        x.set(1, 2);
        x.rota(0, 0);
        check.due("by 0", x.ends(0), 99);
        for (int n = 0; n < 3; n++) {
            x.rota(1, 0);
            x.rota(0, 0);
        }
        check.due("by 0, 3, 6, and 6 without WOOD", x.ends(0), 84);
        x.set(1, 3);
        check.due("by 0, 3, 6, 9", x.ends(0), 81);
        x.set(1, 0);
        check.due("without WOOD", x.ends(0), 99);
        check.due("WOOD stays", x.told(2), 0);
        x.set(0, 9);
        x.rota(-1, 0);
        x.rota(2, 0);
        x.rota(2, 0);
        x.rota(0, 0);
        check.due("TAKEN, none is here", x.ends(0), 0);
        x.rota(3, 0);
        check.due("back, as WET as it was", x.ends(0), 99);
        x.rota(0, 0);
        check.due("it dries again", x.ends(0), 90);
        x.take(0, true);
        check.due("it is TAKEN ahead of that, and comes back", x.ends(0), 90);
        x.rota(-1, 0);
        check.due("an empty ROTA: none is here", x.ends(0), 0);
        check.sentence("ENDS: WET of all that are not TAKEN, together; CRACKS of all, together.");
        BootsStove y = new BootsStove();
        y.pair(1, 0, 50);
        y.pair(1, 0, 50);
        y.set(0, 12);
        y.rota(0, 0);
        y.rota(2, 0);
        y.rota(0, 0);
        check.due("CRACKS of both, then of the first no more; WARM of the other is 8 then", y.ends(1), 2);
        y.set(0, 13);
        check.due("CRACKS of both, then of the other", y.ends(1), 3);
        check.due("WET of the other by 5 and 4", y.ends(0), 41);
        BootsStove none = new BootsStove();
        none.rota(0, 0);
        none.rota(1, 0);
        check.due("there are none", none.ends(0) + none.ends(1), 0);
    }

    private static void bookMany() {
        check.sentence("A BOOK told by hand: PAIRS, WET (0 .. 99; 8 at most)");
        BootsStove x = house(SLOW, 0, 0, 99);
        check.due("WET 100", x.book(0, 100), BAD);
        check.due("WET -1", x.book(0, -1), BAD);
        check.due("PAIR 2", x.book(2, 0), NONE);
        check.due("PAIR -2", x.book(-2, 0), NONE);
        for (int n = 1; n <= 7; n++) {
            check.due("so many", x.book(n % 2, n % 2 * 99), n);
            check.due("all are so", x.looked(), -5);
        }
        check.due("an eighth that is not", x.book(0, 1), 8);
        check.due("it is the eighth", x.looked(), 7);
        check.due("a ninth", x.book(1, 0), FULL);
        check.due("eight", x.count(4), 8);
        check.due("the eighth still", x.looked(), 7);
        check.sentence("(pair -1: it is empty then, 0, whatever the other is)");
        check.due("empty then", x.book(-1, 100), 0);
        check.due("none", x.count(4), 0);
        check.due("none is otherwise", x.looked(), -5);
        check.due("empty still", x.book(-1, Integer.MIN_VALUE), 0);
        check.due("one again", x.book(0, 0), 1);
        check.due("without PAIRS", new BootsStove().book(-1, 0), 0);
    }

    private static void looked() {
        check.sentence("LOOKED at: the number of the first of these rows by which it is otherwise now (-5: none).");
        check.due("there are none", new BootsStove().looked(), -5);
        BootsStove x = house(SLOW, 0, 10, 20, 30, 40, 50, 60);
        for (int n = 0; n < 6; n++) {
            x.book(n, 10 * n + 10);
        }
        check.due("all are so", x.looked(), -5);
        for (int n = 5; n >= 0; n--) {
            x.wet(n, 10 * n + 9);
            check.due("the first is " + n, x.looked(), n);
            x.wet(n, 10 * n + 11);
            check.due("more WET is otherwise, too", x.looked(), n);
        }
        for (int n = 0; n < 6; n++) {
            x.wet(n, 10 * n + 10);
            x.take(n, true);
        }
        check.due("TAKEN or not", x.looked(), -5);
        x.pass(1);
        check.due("they stay as WET", x.looked(), -5);
        x.take(4, false);
        x.pass(1);
        check.due("one has dried", x.looked(), 4);
    }
}
