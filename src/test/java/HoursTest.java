/** Promises 13 to 16: HOURS that go, and that would. */
public final class HoursTest {
    private static final Check check = new Check();

    public static void main(String[] args) {
        promise13();
        promise14();
        promise15();
        promise16();
        check.end("HoursTest");
    }

    private static void promise13() {
        BootsStove x = new BootsStove();
        check.due("13: none", x.pass(0), 0);
        check.due("13: -1", x.pass(-1), BootsStove.BAD);
        check.due("13: 61", x.pass(61), BootsStove.BAD);
        x.pair(0, 0, 50);
        x.pair(1, 0, 50);
        x.pair(4, 1, 50);
        x.pair(1, 0, 99);
        x.take(3, true);
        x.put(3, 0);
        x.put(1, 0);
        x.put(0, 5);
        x.set(0, 16);
        // PLACES: PAIR 0 at 5, 1 at 0, 2 at 2, 3 at 3; WARM 16 13 10 7 4 1
        check.due("13: an HOUR", x.pass(1), 1);
        check.due("13: PAIR by WARM 1", x.of(0, 2), 49);
        check.due("13: LEATHER by 16, halved", x.of(1, 2), 42);
        check.due("13: it cracks", x.of(1, 5), 1);
        check.due("13: GUIDES by 10, halved, and 2", x.of(2, 2), 43);
        check.due("13: by 10 and v 1 they crack", x.of(2, 5), 1);
        check.due("13: TAKEN", x.of(3, 2) + 100 * x.of(3, 5), 99);
        check.due("13: HEAT", x.told(1), 15);
        check.due("13: an HOUR", x.pass(1), 2);
        check.due("13: PAIR by 0", x.of(0, 2), 49);
        check.due("13: LEATHER by 15, cut", x.of(1, 2), 35);
        check.due("13: GUIDES by 9, halved, without 2", x.of(2, 2), 39);
        check.due("13: by 9 and v 1 they don't", x.of(2, 5), 1);
        check.due("13: 0 at least", x.pass(60) + 100 * x.of(1, 2), 62);
        check.due("13: HEAT 0 at least", x.told(1), 0);
        check.due("13: DRY ones crack too", crackOfDry(), 3);
        top();
    }

    private static int crackOfDry() {
        BootsStove x = new BootsStove();
        x.pair(1, 0, 0);
        x.set(0, 11);
        x.pass(60);
        return x.of(0, 5);
    }

    private static void top() {
        BootsStove x = new BootsStove();
        x.pair(1, 0, 9);
        Check.hut(x, "cool 0");
        for (int n = 0; n < 166; n++) {
            x.pass(60);
        }
        check.due("13: 9960", x.told(0), 9960);
        check.due("13: 9960 CRACKS", x.told(6), 9960);
        check.due("13: above 9999", x.pass(40), BootsStove.STATE);
        check.due("13: BAD ahead of STATE", x.pass(61), BootsStove.BAD);
        check.due("13: it stays", x.told(0), 9960);
        check.due("13: 9999", x.pass(39), 9999);
        check.due("13: none more", x.pass(1), BootsStove.STATE);
        check.due("13: but 0", x.pass(0), 9999);
        check.due("14: CRACKS go beyond 9999", x.on(60, 2), 10059);
        check.due("14: HOURS go beyond 9999", x.on(60, 10), 0);
        Check.hut(x, "dry 2 h=0;cool 0");
        x.wet(0, 99);
        x.set(0, 0);
        check.due("14: h 9 at 9999, 0 at 10000", x.on(2, 10), 97);
        x.rota(0, 0);
        check.due("27: CRACKS of ENDS", x.ends(1), 9999);
    }

    private static BootsStove three() {
        BootsStove x = new BootsStove();
        x.pair(0, 0, 50);
        x.pair(1, 0, 30);
        x.pair(0, 0, 99);
        x.take(2, true);
        return x;
    }

    private static void promise14() {
        BootsStove x = three();
        // WARM of 0: 10 9 8 ..; of 1: 7 6 5 ..
        check.due("14: WET of all here", x.on(2, 0), 50 - 19 + 30 - 13);
        check.due("14: HEAT", x.on(2, 1), 8);
        check.due("14: HEAT behind 60", x.on(60, 1), 0);
        check.due("14: CRACKS", x.on(2, 2), 0);
        x.put(1, 0);
        check.due("14: CRACKS by WARM 10, 9, not 8", x.on(3, 2), 2);
        x.put(0, 0);
        check.due("14: WET of 0", x.on(2, 10), 31);
        check.due("14: WET of 1", x.on(2, 11), 17);
        check.due("14: WET of the TAKEN one", x.on(2, 12), 99);
        check.due("14: behind 0", x.on(0, 0), 80);
        check.due("14: no PAIR 3", x.on(2, 13), BootsStove.NONE);
        check.due("14: what 3", x.on(2, 3), BootsStove.NONE);
        check.due("14: what 9", x.on(2, 9), BootsStove.NONE);
        check.due("14: what -1", x.on(2, -1), BootsStove.NONE);
        check.due("14: what is named first", x.on(61, 3), BootsStove.NONE);
        check.due("14: 61", x.on(61, 0), BootsStove.BAD);
        check.due("14: -1", x.on(-1, 12), BootsStove.BAD);
        check.due("14: nothing changed", x.told(0) + x.told(5) + x.told(6), 80);
    }

    private static void promise15() {
        BootsStove x = three();
        // 10 + 9 + 8 + 7 + 6 + 5 + 4 + 3 + 2 + 1 = 55; the sixth HOUR makes 45, the seventh 49, the eighth 52
        check.due("15: 50", x.done(0), 8);
        x.wet(0, 49);
        check.due("15: 49", x.done(0), 7);
        x.wet(0, 55);
        check.due("15: 55", x.done(0), 10);
        x.wet(0, 56);
        check.due("15: 56, never", x.done(0), -5);
        x.wet(0, 0);
        check.due("15: DRY now", x.done(0), 0);
        check.due("15: TAKEN", x.done(2), -5);
        x.wet(2, 0);
        check.due("15: TAKEN and DRY", x.done(2), 0);
        check.due("15: no PAIR", x.done(3), BootsStove.NONE);
        check.due("15: PAIR -1", x.done(-1), BootsStove.NONE);
        BootsStove slow = new BootsStove();
        slow.pair(0, 0, 60);
        Check.hut(slow, "dry 1 w<99;cool 99");
        slow.set(0, 0);
        check.due("15: at 60", slow.done(0), 60);
        slow.wet(0, 61);
        check.due("15: at 61 is not by then", slow.done(0), -5);
        check.due("15: nothing changed", slow.told(0) + slow.of(0, 2), 61);
    }

    private static void promise16() {
        BootsStove x = three();
        check.due("16: none now", x.night(0), 0);
        check.due("16: LEATHER's 30 by 7 6 5 4 3 2 1", x.night(12), 1);
        x.wet(1, 28);
        check.due("16: 28 is gone behind 7", x.night(7), 1);
        check.due("16: both behind 8", x.night(8), 2);
        x.wet(2, 0);
        check.due("16: the TAKEN one is not counted", x.night(8), 2);
        x.take(2, false);
        check.due("16: back it is", x.night(8), 3);
        check.due("16: 13", x.night(13), BootsStove.BAD);
        check.due("16: -1", x.night(-1), BootsStove.BAD);
        check.due("16: nothing changed", x.told(0), 0);
    }
}
