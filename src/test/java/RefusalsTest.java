import java.util.Arrays;
import java.util.function.ToLongFunction;

/**
 * "Answers: NONE (-1) no such number; BAD (-2) a number is not as told; STATE (-3) as told; FULL (-4); the first that
 * a call's words name. What is answered so changes nothing": each refusal that a promise names, the numbers just beyond
 * those that are taken and those farthest off, which one is named first where two hold, and that nothing has changed.
 */
public final class RefusalsTest {
    private static final Check check = new Check();
    private static final int NONE = BootsStove.NONE, BAD = BootsStove.BAD, STATE = BootsStove.STATE, FULL = BootsStove.FULL;
    private static final int NOTHING = -11, CAST = -12, PLACE = -13, SIZE = -14;
    private static final long NO = BootsStove.NO;
    private static final int MAX = Integer.MAX_VALUE, MIN = Integer.MIN_VALUE;
    private static final long[][] UNTOUCHED = new long[Houses.values().length][];

    /** Numbers that are none of 0 .. most, nearest first. */
    private static int[] beyond(int most) {
        return new int[] {-1, most + 1, -2, most + 2, MAX, MIN};
    }

    /** The same where -1 is taken. */
    private static int[] beyondMinusOne(int most) {
        return new int[] {-2, most + 1, most + 2, MAX, MIN};
    }

    public static void main(String[] args) {
        for (Houses house : Houses.values()) {
            UNTOUCHED[house.ordinal()] = Houses.whole(house.build());
        }
        wholeTells();
        promise2();
        promises3And12();
        promises4To6();
        promises7To9();
        promises10And11();
        promises13To16();
        promises17To19();
        promise20();
        promises21To23();
        promises24And25();
        promises26And27();
        promise28();
        promises30To33();
        promises34To36();
        promises37To39();
        promise40();
        check.end("RefusalsTest");
    }

    private static void refused(Houses house, String call, long due, ToLongFunction<BootsStove> made) {
        BootsStove x = house.build();
        check.due(call + " in a " + house + " house", made.applyAsLong(x), due);
        boolean isAsItWas = Arrays.equals(Houses.whole(x), UNTOUCHED[house.ordinal()]);
        check.due(call + " in a " + house + " house: nothing changed", isAsItWas ? 1 : 0, 1);
    }

    /** What changes something is seen, or all below would hold of itself. */
    private static void wholeTells() {
        check.sentence("");
        tells("pair", x -> x.pair(0, 0, 0));
        tells("wet", x -> x.wet(0, 1));
        tells("put", x -> x.put(0, 5));
        tells("take", x -> x.take(0, true));
        tells("stoke", BootsStove::stoke);
        tells("set HEAT", x -> x.set(0, 3));
        tells("set WOOD", x -> x.set(1, 3));
        for (int part = 0; part < 4; part++) {
            int p = part;
            tells("row " + p, x -> x.row(0, p, 9));
        }
        tells("feed", x -> x.feed('0'));
        tells("hut", BootsStove::hut);
        tells("pass", x -> x.pass(1));
        tells("see", x -> x.see(0, 0, 0));
        tells("see none", x -> x.see(-1, 0, 0));
        tells("rota", x -> x.rota(0, 0));
        tells("rota none", x -> x.rota(-1, 0));
        tells("book", x -> x.book(0, 0));
        tells("book none", x -> x.book(-1, 0));
        tells("image", BootsStove::image);
        tells("undo", BootsStove::undo);
        tells("act", x -> x.act(0, 0, 0));
        tells("tape of none", x -> x.tape(0, -1, 0));
        tells("tape, longer", x -> x.tape(0, 0, 4));
        tells("tape of another sort", x -> x.tape(2, 2, 1));
        tells("item", x -> x.item(0, 0, 0));
        tells("shift", x -> x.shift(0, 0, 0, 1, 1));
    }

    private static void tells(String call, ToLongFunction<BootsStove> made) {
        BootsStove x = Houses.BUSY.build();
        made.applyAsLong(x);
        boolean isAsItWas = Arrays.equals(Houses.whole(x), UNTOUCHED[Houses.BUSY.ordinal()]);
        check.due(call + " changes nothing that is seen", isAsItWas ? 1 : 0, 0);
    }

    private static void promise2() {
        check.sentence("2: NONE: kind; BAD: v, wet; FULL: 6.");
        for (Houses house : Houses.values()) {
            for (int n : beyond(6)) {
                refused(house, "kind " + n, NONE, x -> x.pair(n, 0, 0));
                refused(house, "NONE ahead of BAD, kind " + n, NONE, x -> x.pair(n, 10, 100));
            }
            for (int n : beyond(9)) {
                refused(house, "v " + n, BAD, x -> x.pair(0, n, 0));
            }
            for (int n : beyond(99)) {
                refused(house, "wet " + n, BAD, x -> x.pair(6, 9, n));
            }
        }
        refused(Houses.FULL, "a seventh", FULL, x -> x.pair(0, 0, 0));
        refused(Houses.FULL, "a seventh", FULL, x -> x.pair(6, 9, 99));
    }

    private static void promises3And12() {
        check.sentence("3: NONE.");
        refused(Houses.EMPTY, "there are no PAIRS", NONE, x -> x.of(0, 0));
        for (int n : beyond(4)) {
            refused(Houses.BUSY, "PAIR " + n, NONE, x -> x.of(n, 0));
            refused(Houses.BUSY, "DRIES of PAIR " + n, NONE, x -> x.of(n, 10));
        }
        for (int n : beyond(5)) {
            refused(Houses.FULL, "PAIR " + n, NONE, x -> x.of(n, 0));
        }
        for (int what : new int[] {-1, 7, 8, 9, 16, 17, MAX, MIN, MIN + 10}) {
            refused(Houses.BUSY, "what " + what, NONE, x -> x.of(0, what));
        }
        check.sentence("12: NONE.");
        for (int what : new int[] {-1, 8, 9, 16, 17, 18, 19, 26, 27, MAX, MIN, MIN + 10, MIN + 20}) {
            refused(Houses.EMPTY, "what " + what, NONE, x -> x.told(what));
            refused(Houses.BUSY, "what " + what, NONE, x -> x.told(what));
        }
    }

    private static void promises4To6() {
        refused(Houses.EMPTY, "4: there are no PAIRS", NONE, x -> x.wet(0, 0));
        refused(Houses.EMPTY, "5: there are no PAIRS", NONE, x -> x.put(0, 0));
        refused(Houses.EMPTY, "6: there are no PAIRS", NONE, x -> x.take(0, true));
        for (int n : beyond(4)) {
            check.sentence("4: NONE; BAD.");
            refused(Houses.BUSY, "PAIR " + n, NONE, x -> x.wet(n, 0));
            refused(Houses.BUSY, "NONE ahead of BAD, PAIR " + n, NONE, x -> x.wet(n, 100));
            check.sentence("5: NONE.");
            refused(Houses.BUSY, "PAIR " + n, NONE, x -> x.put(n, 5));
            refused(Houses.BUSY, "to a PLACE that one is at, PAIR " + n, NONE, x -> x.put(n, 0));
            check.sentence("6: NONE.");
            refused(Houses.BUSY, "PAIR " + n, NONE, x -> x.take(n, true));
            refused(Houses.BUSY, "not, PAIR " + n, NONE, x -> x.take(n, false));
        }
        for (int n : beyond(5)) {
            check.sentence("5: NONE.");
            refused(Houses.BUSY, "PLACE " + n, NONE, x -> x.put(0, n));
            refused(Houses.FULL, "PLACE " + n, NONE, x -> x.put(5, n));
            refused(Houses.FULL, "PAIR " + n, NONE, x -> x.put(n, 5));
            check.sentence("6: NONE.");
            refused(Houses.FULL, "PAIR " + n, NONE, x -> x.take(n, true));
            check.sentence("4: NONE; BAD.");
            refused(Houses.FULL, "PAIR " + n, NONE, x -> x.wet(n, 0));
        }
        for (int n : beyond(99)) {
            refused(Houses.BUSY, "n " + n, BAD, x -> x.wet(0, n));
            refused(Houses.FULL, "n " + n, BAD, x -> x.wet(5, n));
        }
    }

    private static void promises7To9() {
        check.sentence("7: STATE: there is no WOOD.");
        refused(Houses.FULL, "WOOD 0", STATE, BootsStove::stoke);
        check.sentence("8: NONE; BAD.");
        for (int n : beyond(1)) {
            refused(Houses.BUSY, "what " + n, NONE, x -> x.set(n, 5));
            refused(Houses.BUSY, "NONE ahead of BAD, what " + n, NONE, x -> x.set(n, 31));
        }
        for (int n : beyond(30)) {
            refused(Houses.BUSY, "HEAT " + n, BAD, x -> x.set(0, n));
        }
        for (int n : beyond(9)) {
            refused(Houses.BUSY, "WOOD " + n, BAD, x -> x.set(1, n));
        }
        check.sentence("9: NONE: pair, part; BAD; STATE: another KIND.");
        refused(Houses.EMPTY, "there are no PAIRS", NONE, x -> x.row(0, 0, 0));
        for (int n : beyond(4)) {
            refused(Houses.BUSY, "PAIR " + n, NONE, x -> x.row(n, 0, 5));
            refused(Houses.BUSY, "NONE ahead of BAD, PAIR " + n, NONE, x -> x.row(n, 0, 10));
        }
        for (int n : beyond(3)) {
            refused(Houses.BUSY, "part " + n, NONE, x -> x.row(0, n, 5));
            refused(Houses.BUSY, "NONE ahead of BAD, part " + n, NONE, x -> x.row(0, n, -1));
            refused(Houses.BUSY, "NONE ahead of STATE, part " + n, NONE, x -> x.row(1, n, 5));
        }
        for (int n : beyond(9)) {
            refused(Houses.BUSY, "n " + n, BAD, x -> x.row(0, 0, n));
            refused(Houses.BUSY, "n " + n, BAD, x -> x.row(0, 3, n));
            refused(Houses.BUSY, "BAD ahead of STATE, n " + n, BAD, x -> x.row(1, 0, n));
        }
        for (int b = 1; b < 6; b++) {
            int pair = b;
            refused(Houses.FULL, "KIND " + (6 - b), STATE, x -> x.row(pair, 0, 5));
        }
    }

    private static void promises10And11() {
        check.sentence("10: BAD; FULL.");
        for (int n : beyond(127)) {
            refused(Houses.EMPTY, "sign " + n, BAD, x -> x.feed(n));
            refused(Houses.BUSY, "sign " + n, BAD, x -> x.feed(n));
            refused(Houses.FULL, "BAD ahead of FULL, sign " + n, BAD, x -> x.feed(n));
        }
        refused(Houses.FULL, "a 101st", FULL, x -> x.feed(0));
        refused(Houses.FULL, "a 101st", FULL, x -> x.feed(127));
        check.sentence("11: FULL: there are 6 (THE TEXT stays)");
        refused(Houses.FULL, "a seventh, ahead of its FAULT", FULL, BootsStove::hut);
    }

    private static void promises13To16() {
        for (int n : beyond(60)) {
            check.sentence("13: n HOURS (0 .. 60) go: HOUR. BAD; STATE: it would be above 9999.");
            refused(Houses.BUSY, "n " + n, BAD, x -> x.pass(n));
            refused(Houses.LATE, "BAD ahead of STATE, n " + n, BAD, x -> x.pass(n));
            check.sentence("14: NONE; BAD: n.");
            refused(Houses.BUSY, "n " + n, BAD, x -> x.on(n, 0));
            refused(Houses.BUSY, "n " + n, BAD, x -> x.on(n, 14));
        }
        check.sentence("13: STATE: it would be above 9999.");
        refused(Houses.LATE, "n 1", STATE, x -> x.pass(1));
        refused(Houses.LATE, "n 60", STATE, x -> x.pass(60));
        check.sentence("14: NONE; BAD: n.");
        for (int what : new int[] {-1, 3, 9, 15, 16, MAX, MIN, MIN + 10}) {
            refused(Houses.BUSY, "what " + what, NONE, x -> x.on(0, what));
            refused(Houses.BUSY, "NONE ahead of BAD, what " + what, NONE, x -> x.on(61, what));
        }
        refused(Houses.EMPTY, "there are no PAIRS", NONE, x -> x.on(0, 10));
        refused(Houses.FULL, "PAIR 6", NONE, x -> x.on(0, 16));
        check.sentence("15: DONE; -5. NONE.");
        refused(Houses.EMPTY, "there are no PAIRS", NONE, x -> x.done(0));
        for (int n : beyond(4)) {
            refused(Houses.BUSY, "PAIR " + n, NONE, x -> x.done(n));
        }
        check.sentence("16: NIGHT. BAD.");
        for (int n : beyond(12)) {
            refused(Houses.BUSY, "n " + n, BAD, x -> x.night(n));
            refused(Houses.EMPTY, "n " + n, BAD, x -> x.night(n));
        }
    }

    private static void promises17To19() {
        check.sentence("17: NONE: what; BAD: n.");
        for (int what : new int[] {-1, 2, 9, 15, 16, MAX, MIN, MIN + 10}) {
            refused(Houses.BUSY, "what " + what, NONE, x -> x.placed(1, what));
            refused(Houses.BUSY, "NONE ahead of BAD, what " + what, NONE, x -> x.placed(0, what));
        }
        refused(Houses.EMPTY, "there are no PAIRS", NONE, x -> x.placed(1, 10));
        refused(Houses.FULL, "PAIR 6", NONE, x -> x.placed(1, 16));
        for (int n : new int[] {0, 13, -1, MAX, MIN}) {
            refused(Houses.BUSY, "n " + n, BAD, x -> x.placed(n, 0));
            refused(Houses.BUSY, "n " + n, BAD, x -> x.placed(n, 14));
            refused(Houses.EMPTY, "n " + n, BAD, x -> x.placed(n, 1));
        }
        check.sentence("19: NONE: what; BAD: n.");
        for (int what : beyond(1)) {
            refused(Houses.BUSY, "what " + what, NONE, x -> x.logs(1, what));
            refused(Houses.BUSY, "NONE ahead of BAD, what " + what, NONE, x -> x.logs(7, what));
        }
        for (int n : new int[] {0, 7, -1, 8, 32, 33, MAX, MIN}) {
            refused(Houses.BUSY, "n " + n, BAD, x -> x.logs(n, 0));
            refused(Houses.BUSY, "n " + n, BAD, x -> x.logs(n, 1));
        }
    }

    private static void promise20() {
        check.sentence("20: NONE; BAD: wet, n; FULL: 5.");
        refused(Houses.EMPTY, "there are no PAIRS", NONE, x -> x.see(0, 0, 0));
        for (int n : beyondMinusOne(4)) {
            refused(Houses.BUSY, "PAIR " + n, NONE, x -> x.see(n, 0, 0));
            refused(Houses.BUSY, "NONE ahead of BAD, PAIR " + n, NONE, x -> x.see(n, 100, 21));
        }
        for (int n : beyondMinusOne(5)) {
            refused(Houses.FULL, "NONE ahead of FULL, PAIR " + n, NONE, x -> x.see(n, 0, 0));
        }
        for (int n : beyond(99)) {
            refused(Houses.BUSY, "WET " + n, BAD, x -> x.see(0, n, 0));
            refused(Houses.FULL, "BAD ahead of FULL, WET " + n, BAD, x -> x.see(0, n, 0));
        }
        for (int n : beyond(20)) {
            refused(Houses.BUSY, "n " + n, BAD, x -> x.see(0, 0, n));
            refused(Houses.FULL, "BAD ahead of FULL, n " + n, BAD, x -> x.see(0, 0, n));
        }
        refused(Houses.FULL, "a sixth", FULL, x -> x.see(0, 0, 0));
        refused(Houses.FULL, "a sixth", FULL, x -> x.see(5, 99, 20));
    }

    private static void promises21To23() {
        refused(Houses.EMPTY, "21: there are no PAIRS", NONE, x -> x.wets(0, 0));
        refused(Houses.EMPTY, "22: there are no PAIRS", NONE, x -> x.can(0, 0));
        refused(Houses.EMPTY, "23: there are no PAIRS", NONE, x -> x.where(0));
        for (int n : beyond(4)) {
            check.sentence("21: NONE.");
            refused(Houses.BUSY, "PAIR " + n, NONE, x -> x.wets(n, 0));
            check.sentence("22: NONE.");
            refused(Houses.BUSY, "PAIR " + n, NONE, x -> x.can(n, 0));
            check.sentence("23: NONE.");
            refused(Houses.BUSY, "PAIR " + n, NONE, x -> x.where(n));
        }
        for (int what : beyond(1)) {
            check.sentence("21: NONE.");
            refused(Houses.BUSY, "what " + what, NONE, x -> x.wets(0, what));
            check.sentence("22: NONE.");
            refused(Houses.BUSY, "what " + what, NONE, x -> x.can(0, what));
        }
    }

    private static void promises24And25() {
        for (int part = 0; part < 2; part++) {
            int p = part;
            refused(Houses.EMPTY, "24: there are none", NO, x -> x.odds(0, 0, p));
            refused(Houses.EMPTY, "25: there are none", NO, x -> x.mean(0, p));
            for (int n : beyond(60)) {
                check.sentence("24: NO.");
                refused(Houses.BUSY, "n " + n, NO, x -> x.odds(n, 0, p));
                check.sentence("25: NO.");
                refused(Houses.BUSY, "n " + n, NO, x -> x.mean(n, p));
            }
            check.sentence("24: NO.");
            for (int q : beyond(999)) {
                refused(Houses.BUSY, "q " + q, NO, x -> x.odds(0, q, p));
            }
        }
        for (int part : beyond(1)) {
            check.sentence("24: NO.");
            refused(Houses.BUSY, "part " + part, NO, x -> x.odds(0, 0, part));
            check.sentence("25: NO.");
            refused(Houses.BUSY, "part " + part, NO, x -> x.mean(0, part));
        }
    }

    private static void promises26And27() {
        check.sentence("26: NONE: what (0 .. 3), PAIR (by 2, 3; by 0, 1 n does not matter); FULL: 10.");
        for (int what : beyondMinusOne(3)) {
            refused(Houses.BUSY, "what " + what, NONE, x -> x.rota(what, 0));
            refused(Houses.FULL, "NONE ahead of FULL, what " + what, NONE, x -> x.rota(what, 0));
        }
        for (int what = 2; what <= 3; what++) {
            int by = what;
            refused(Houses.EMPTY, "there are no PAIRS, by " + by, NONE, x -> x.rota(by, 0));
            for (int n : beyond(4)) {
                refused(Houses.BUSY, "PAIR " + n + " by " + by, NONE, x -> x.rota(by, n));
            }
            for (int n : beyond(5)) {
                refused(Houses.FULL, "NONE ahead of FULL, PAIR " + n + " by " + by, NONE, x -> x.rota(by, n));
            }
        }
        for (int what = 0; what <= 3; what++) {
            int by = what;
            refused(Houses.FULL, "an 11th by " + by, FULL, x -> x.rota(by, 5));
        }
        refused(Houses.FULL, "an 11th whose n does not matter", FULL, x -> x.rota(0, -1));
        refused(Houses.FULL, "an 11th whose n does not matter", FULL, x -> x.rota(1, 6));
        check.sentence("27: NONE.");
        for (int what : beyond(1)) {
            refused(Houses.EMPTY, "what " + what, NONE, x -> x.ends(what));
            refused(Houses.BUSY, "what " + what, NONE, x -> x.ends(what));
        }
    }

    private static void promise28() {
        check.sentence("28: NONE; BAD: wet; FULL: 8.");
        refused(Houses.EMPTY, "there are no PAIRS", NONE, x -> x.book(0, 0));
        for (int n : beyondMinusOne(4)) {
            refused(Houses.BUSY, "PAIR " + n, NONE, x -> x.book(n, 0));
            refused(Houses.BUSY, "NONE ahead of BAD, PAIR " + n, NONE, x -> x.book(n, 100));
        }
        for (int n : beyondMinusOne(5)) {
            refused(Houses.FULL, "NONE ahead of FULL, PAIR " + n, NONE, x -> x.book(n, 0));
        }
        for (int n : beyond(99)) {
            refused(Houses.BUSY, "WET " + n, BAD, x -> x.book(0, n));
            refused(Houses.FULL, "BAD ahead of FULL, WET " + n, BAD, x -> x.book(0, n));
        }
        refused(Houses.FULL, "a ninth", FULL, x -> x.book(0, 0));
        refused(Houses.FULL, "a ninth", FULL, x -> x.book(5, 99));
    }

    private static void promises30To33() {
        check.sentence("30: NONE: tape; CAST: it is no row of bytes.");
        for (int n : beyond(5)) {
            refused(Houses.EMPTY, "TAPE " + n, NONE, x -> x.judge(n, 0));
            refused(Houses.BUSY, "TAPE " + n, NONE, x -> x.judge(n, -1));
        }
        for (int tape = 1; tape <= 3; tape++) {
            int t = tape;
            refused(Houses.BUSY, "TAPE " + t, CAST, x -> x.judge(t, 0));
            refused(Houses.BUSY, "CAST ahead of a place below 0, TAPE " + t, CAST, x -> x.judge(t, -1));
        }
        check.sentence("32: STATE: there is none.");
        refused(Houses.EMPTY, "no IMAGE", STATE, BootsStove::undo);
        check.sentence("33: 0, and no TRACE then: no such PAIR, act.");
        refused(Houses.EMPTY, "there are no PAIRS", 0, x -> x.act(0, 0, 1));
        for (int n : beyond(5)) {
            refused(Houses.FULL, "PAIR " + n, 0, x -> x.act(n, 0, 1));
        }
        for (int n : beyond(2)) {
            refused(Houses.FULL, "act " + n, 0, x -> x.act(0, n, 1));
        }
    }

    private static void promises34To36() {
        check.sentence("34: NONE.");
        refused(Houses.EMPTY, "nothing ran", NONE, x -> x.trace(0));
        for (int i : new int[] {-1, 12, 13, 19, 20, 21, MAX, MIN}) {
            refused(Houses.BUSY, "body " + i, NONE, x -> x.trace(i));
        }
        check.sentence("35: BAD: k; NOTHING: no such PAIR; CAST.");
        for (int k : beyond(6)) {
            refused(Houses.BUSY, "k " + k, BAD, x -> x.taken(0, k));
            refused(Houses.EMPTY, "BAD ahead of NOTHING, k " + k, BAD, x -> x.taken(0, k));
        }
        for (int n : beyond(4)) {
            refused(Houses.BUSY, "PAIR " + n, NOTHING, x -> x.taken(n, 0));
            refused(Houses.BUSY, "PAIR " + n, NOTHING, x -> x.taken(n, 6));
        }
        refused(Houses.EMPTY, "there are no PAIRS", NOTHING, x -> x.taken(0, 0));
        refused(Houses.BUSY, "a TOLD one for LEATHER", CAST, x -> x.taken(0, 1));
        refused(Houses.BUSY, "LEATHER for the GUIDE'S", CAST, x -> x.taken(1, 4));
        check.sentence("36: BAD.");
        for (int what : beyond(6)) {
            refused(Houses.EMPTY, "what " + what, BAD, x -> x.count(what));
            refused(Houses.BUSY, "what " + what, BAD, x -> x.count(what));
        }
    }

    private static void promises37To39() {
        for (int n : beyond(5)) {
            check.sentence("37: NONE: tape; BAD: sort, n above 60; SIZE.");
            refused(Houses.BUSY, "TAPE " + n, NONE, x -> x.tape(n, 0, 1));
            refused(Houses.BUSY, "to hold nothing, TAPE " + n, NONE, x -> x.tape(n, -1, 1));
            refused(Houses.BUSY, "NONE ahead of BAD, TAPE " + n, NONE, x -> x.tape(n, 5, 61));
            refused(Houses.BUSY, "NONE ahead of SIZE, TAPE " + n, NONE, x -> x.tape(n, 0, -1));
            check.sentence("38: NONE; NOTHING; PLACE.");
            refused(Houses.BUSY, "TAPE " + n, NONE, x -> x.item(n, 0, 1));
            refused(Houses.BUSY, "NONE ahead of PLACE, TAPE " + n, NONE, x -> x.item(n, -1, 1));
            check.sentence("39: NO: no such TAPE, nothing there, no such place.");
            refused(Houses.BUSY, "TAPE " + n, NO, x -> x.read(n, 0));
        }
        check.sentence("37: NONE: tape; BAD: sort, n above 60; SIZE.");
        for (int sort : beyondMinusOne(4)) {
            refused(Houses.BUSY, "sort " + sort, BAD, x -> x.tape(0, sort, 1));
            refused(Houses.BUSY, "BAD ahead of SIZE, sort " + sort, BAD, x -> x.tape(0, sort, -1));
        }
        for (int sort = 0; sort <= 4; sort++) {
            int s = sort;
            for (int n : new int[] {61, 62, MAX}) {
                refused(Houses.BUSY, "n " + n + " of sort " + s, BAD, x -> x.tape(0, s, n));
            }
            for (int n : new int[] {-1, -2, MIN}) {
                refused(Houses.BUSY, "n " + n + " of sort " + s, SIZE, x -> x.tape(0, s, n));
            }
        }
        int[] sizes = {3, 2, 0, 3, 2};
        for (int tape = 0; tape < 5; tape++) {
            int t = tape;
            for (int i : beyond(sizes[t] - 1)) {
                check.sentence("38: NONE; NOTHING; PLACE.");
                refused(Houses.BUSY, "place " + i + " of TAPE " + t, PLACE, x -> x.item(t, i, 1));
                check.sentence("39: NO: no such TAPE, nothing there, no such place.");
                refused(Houses.BUSY, "place " + i + " of TAPE " + t, NO, x -> x.read(t, i));
            }
        }
        for (int i : new int[] {0, -1, 60, MAX, MIN}) {
            check.sentence("38: NONE; NOTHING; PLACE.");
            refused(Houses.BUSY, "NOTHING ahead of PLACE, place " + i, NOTHING, x -> x.item(5, i, 1));
            check.sentence("39: NO: no such TAPE, nothing there, no such place.");
            refused(Houses.BUSY, "nothing there, place " + i, NO, x -> x.read(5, i));
        }
    }

    private static void promise40() {
        check.sentence("40: NONE: tapes; NOTHING; CAST: of unlike sorts; PLACE: n, i or j is below 0, or beyond either's end.");
        for (int n : beyond(5)) {
            refused(Houses.BUSY, "from TAPE " + n, NONE, x -> x.shift(n, 0, 0, 0, 1));
            refused(Houses.BUSY, "to TAPE " + n, NONE, x -> x.shift(0, 0, n, 0, 1));
            refused(Houses.BUSY, "NONE ahead of NOTHING, from TAPE " + n, NONE, x -> x.shift(n, 0, 5, 0, 1));
            refused(Houses.BUSY, "NONE ahead of NOTHING, to TAPE " + n, NONE, x -> x.shift(5, -1, n, 0, 1));
        }
        refused(Houses.BUSY, "from one that holds nothing", NOTHING, x -> x.shift(5, 0, 0, 0, 1));
        refused(Houses.BUSY, "to one that holds nothing", NOTHING, x -> x.shift(0, 0, 5, 0, 1));
        refused(Houses.BUSY, "both are one that holds nothing", NOTHING, x -> x.shift(5, 0, 5, 0, 0));
        refused(Houses.BUSY, "NOTHING ahead of PLACE", NOTHING, x -> x.shift(0, -1, 5, -1, -1));
        for (int tape = 1; tape <= 3; tape++) {
            int t = tape;
            refused(Houses.BUSY, "to TAPE " + t, CAST, x -> x.shift(0, 0, t, 0, 0));
            refused(Houses.BUSY, "from TAPE " + t, CAST, x -> x.shift(t, 0, 0, 0, 0));
            refused(Houses.BUSY, "CAST ahead of PLACE, TAPE " + t, CAST, x -> x.shift(t, -1, 0, MAX, -1));
        }
        // TAPE 0 has 3 bytes, TAPE 4 has 2
        int[][] beyond = {{-1, 0, 1}, {0, -1, 1}, {0, 0, -1}, {-1, 0, 0}, {0, -1, 0}, {0, 0, 3}, {0, 1, 2}, {0, 2, 1}, {0, 3, 0}, {2, 0, 2},
            {3, 0, 1}, {4, 0, 0}, {MAX, 0, 1}, {0, MAX, 1}, {0, 0, MAX}, {MAX, MAX, MAX}, {1, 1, MAX}, {MIN, 0, 1}, {0, MIN, 1}, {0, 0, MIN}};
        for (int[] b : beyond) {
            String call = b[2] + " from " + b[0] + " to " + b[1];
            refused(Houses.BUSY, call, PLACE, x -> x.shift(0, b[0], 4, b[1], b[2]));
            refused(Houses.BUSY, "the other way, " + call, PLACE, x -> x.shift(4, b[1], 0, b[0], b[2]));
        }
        refused(Houses.BUSY, "onto itself beyond its end", PLACE, x -> x.shift(0, 0, 0, 1, 3));
    }
}
