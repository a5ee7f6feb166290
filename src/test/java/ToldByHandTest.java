/** Promises 26 to 32: the ROTA, the BOOK, judging, the image. */
public final class ToldByHandTest {
    private static final Check check = new Check();

    public static void main(String[] args) {
        promise26();
        promise27();
        promise28();
        promise29();
        promise30();
        promises31And32();
        imageKeeps();
        imageKeepsRows();
        comesFresh();
        imageKeepsNot();
        check.end("ToldByHandTest");
    }

    private static void promise26() {
        BootsStove x = new BootsStove();
        check.due("26: what 4", x.rota(4, 0), BootsStove.NONE);
        check.due("26: what -2", x.rota(-2, 0), BootsStove.NONE);
        check.due("26: no PAIR by 2", x.rota(2, 0), BootsStove.NONE);
        check.due("26: no PAIR by 3", x.rota(3, 0), BootsStove.NONE);
        check.due("26: empty then", x.rota(-1, 99), 0);
        check.due("26: by 0 n does not matter", x.rota(0, -77), 1);
        check.due("26: by 1 n does not matter", x.rota(1, 77), 2);
        x.pair(0, 0, 0);
        check.due("26: a PAIR by 2", x.rota(2, 0), 3);
        check.due("26: a PAIR by 3", x.rota(3, 0), 4);
        check.due("26: no PAIR -1", x.rota(2, -1), BootsStove.NONE);
        check.due("26: no PAIR 1", x.rota(3, 1), BootsStove.NONE);
        for (int n = 5; n <= 10; n++) {
            check.due("26: " + n, x.rota(0, 0), n);
        }
        check.due("26: 11", x.rota(0, 0), BootsStove.FULL);
        check.due("26: NONE ahead of FULL", x.rota(2, 1), BootsStove.NONE);
        check.due("26: there are 10", x.count(3), 10);
        check.due("26: empty then", x.rota(-1, 0), 0);
        check.due("26: there are none", x.count(3), 0);
        check.due("26: nothing went", x.told(0) + x.told(2), 3);
    }

    private static void promise27() {
        BootsStove x = new BootsStove();
        check.due("27: none", x.ends(0), 0);
        check.due("27: none", x.ends(1), 0);
        x.pair(1, 0, 90);
        x.pair(0, 0, 50);
        check.due("27: an empty ROTA", x.ends(0), 140);
        x.rota(0, 0);
        // 90 less 5, 50 less 7
        check.due("27: an HOUR", x.ends(0), 128);
        check.due("27: one CRACK", x.ends(1), 1);
        x.rota(1, 0);
        x.rota(0, 0);
        // HEAT 15: 85 less 7, 43 less 12
        check.due("27: a log, an HOUR", x.ends(0), 78 + 31);
        check.due("27: two CRACKS", x.ends(1), 2);
        x.rota(2, 0);
        check.due("27: TAKEN", x.ends(0), 31);
        check.due("27: CRACKS of all", x.ends(1), 2);
        x.rota(0, 0);
        // HEAT 14: 31 less 11
        check.due("27: TAKEN through an HOUR", x.ends(0), 20);
        x.rota(3, 0);
        check.due("27: it is not", x.ends(0), 98);
        check.due("27: it cracked no more", x.ends(1), 2);
        check.due("27: what 2", x.ends(2), BootsStove.NONE);
        check.due("27: what -1", x.ends(-1), BootsStove.NONE);
        check.due("27: nothing changed", x.told(5) + x.told(0) + x.told(6) + x.told(1) + x.told(2), 153);
        x.rota(-1, 0);
        x.set(1, 1);
        x.rota(1, 0);
        x.rota(1, 0);
        x.rota(0, 0);
        // one log alone: HEAT 16
        check.due("27: if there is WOOD", x.ends(0), 82 + 37);
        x.set(1, 0);
        check.due("27: there is none", x.ends(0), 128);
    }

    private static void promise28() {
        BootsStove x = new BootsStove();
        check.due("28: no PAIR", x.book(0, 0), BootsStove.NONE);
        check.due("28: empty then", x.book(-1, 500), 0);
        x.pair(0, 0, 0);
        check.due("28: PAIR 1", x.book(1, 0), BootsStove.NONE);
        check.due("28: PAIR -2 is named first", x.book(-2, 100), BootsStove.NONE);
        check.due("28: WET 100", x.book(0, 100), BootsStove.BAD);
        check.due("28: WET -1", x.book(0, -1), BootsStove.BAD);
        for (int n = 1; n <= 8; n++) {
            check.due("28: " + n, x.book(0, n == 1 ? 99 : 0), n);
        }
        check.due("28: 9", x.book(0, 0), BootsStove.FULL);
        check.due("28: BAD ahead of FULL", x.book(0, 100), BootsStove.BAD);
        check.due("28: there are 8", x.count(4), 8);
        check.due("28: empty then", x.book(-1, -1), 0);
        check.due("28: there are none", x.count(4), 0);
    }

    private static void promise29() {
        BootsStove x = new BootsStove();
        check.due("29: none", x.looked(), -5);
        x.pair(0, 0, 40);
        x.pair(0, 0, 50);
        check.due("29: none", x.looked(), -5);
        x.book(1, 50);
        x.book(0, 40);
        check.due("29: all is so", x.looked(), -5);
        x.book(0, 30);
        x.book(1, 7);
        check.due("29: the first that is otherwise", x.looked(), 2);
        x.pass(1);
        check.due("29: it is otherwise now", x.looked(), 0);
        x.wet(1, 50);
        check.due("29: 0 has 30", x.looked(), 1);
    }

    private static void promise30() {
        BootsStove x = new BootsStove();
        check.due("30: no PAIRS", x.judge(0, 0), -5);
        check.due("30: no PAIRS, below 0", x.judge(0, -1), -5);
        check.due("30: TAPE 6", x.judge(6, 0), BootsStove.NONE);
        check.due("30: TAPE -1", x.judge(-1, 0), BootsStove.NONE);
        for (int sort = 1; sort <= 4; sort++) {
            x.tape(1, sort, 9);
            check.due("30: sort " + sort, x.judge(1, 0), -12);
        }
        check.due("30: another sort, below 0", x.judge(1, -1), -12);
        x.pair(0, 0, 40);
        x.pair(0, 0, 50);
        x.pair(0, 0, 60);
        check.due("30: another sort", x.judge(1, 0), -12);
        check.due("30: it holds nothing", x.judge(0, 0), 100);
        x.tape(0, 0, 5);
        x.item(0, 1, 40);
        x.item(0, 2, 50);
        x.item(0, 3, 60);
        check.due("30: all is so", x.judge(0, 1), -5);
        check.due("30: the first that is otherwise", x.judge(0, 0), 0);
        x.item(0, 2, 51);
        check.due("30: the second", x.judge(0, 1), 1);
        x.item(0, 2, 50 + 256);
        x.item(0, 3, 61);
        check.due("30: the third", x.judge(0, 1), 2);
        x.item(0, 4, 40);
        check.due("30: the row ends behind 1", x.judge(0, 4), 101);
        x.item(0, 3, 40);
        x.item(0, 4, 50);
        check.due("30: the row ends behind 2", x.judge(0, 3), 102);
        x.item(0, 4, 51);
        check.due("30: otherwise ahead of that", x.judge(0, 3), 1);
        check.due("30: the row's end", x.judge(0, 5), 100);
        check.due("30: beyond", x.judge(0, 6), 100);
        check.due("30: far beyond", x.judge(0, Integer.MAX_VALUE), 100);
        check.due("30: below 0", x.judge(0, -1), 100);
        check.due("30: far below 0", x.judge(0, Integer.MIN_VALUE), 100);
        x.tape(0, 0, 0);
        check.due("30: an empty row", x.judge(0, 0), 100);
        x.tape(0, 0, 3);
        x.item(0, 0, 40);
        x.item(0, 1, 50);
        x.item(0, 2, 60);
        check.due("30: the row ends with the PAIRS", x.judge(0, 0), -5);
        check.due("30: TAPE 5 is one", x.judge(5, 0), 100);
    }

    private static void promises31And32() {
        BootsStove x = new BootsStove();
        check.due("32: none", x.undo(), BootsStove.STATE);
        check.due("31: no PAIRS", x.image(), 0);
        x.pair(0, 0, 0);
        x.pair(0, 0, 0);
        check.due("32: no PAIRS", x.undo(), 0);
        check.due("32: no PAIRS", x.count(0), 0);
        x.pair(0, 0, 5);
        check.due("31: 1", x.image(), 1);
        x.wet(0, 6);
        check.due("32: 1", x.undo(), 1);
        check.due("32: as it was", x.of(0, 2), 5);
        x.wet(0, 7);
        check.due("32: THE IMAGE stays", x.undo(), 1);
        check.due("32: as it was", x.of(0, 2), 5);
    }

    private static void imageKeeps() {
        BootsStove x = new BootsStove();
        x.pair(6, 4, 80);
        x.pair(1, 3, 70);
        x.row(0, 1, 7);
        x.put(0, 5);
        x.put(1, 0);
        x.take(0, true);
        x.pass(2);
        x.set(0, 21);
        x.set(1, 5);
        Check.hut(x, "cool 7;log 4");
        x.see(0, 80, 2);
        x.rota(0, 0);
        x.rota(2, 1);
        x.book(0, 80);
        int wet = x.of(1, 2);
        check.due("31: 2", x.image(), 2);

        x.pair(2, 1, 60);
        x.wet(0, 1);
        x.wet(1, 1);
        x.row(0, 1, 1);
        x.put(1, 5);
        x.put(0, 2);
        x.take(0, false);
        x.take(1, true);
        x.take(1, false);
        x.pass(3);
        x.set(0, 30);
        x.set(1, 0);
        Check.hut(x, "cool 1;log 1");
        x.see(1, 1, 1);
        x.rota(-1, 0);
        x.rota(1, 0);
        x.book(1, 1);
        check.due("32: 2", x.undo(), 2);

        check.due("32: PAIRS", x.count(0), 2);
        int[][] due = {{6, 4, 80, 5, 1, 0}, {1, 3, wet, 0, 0, 2}};
        for (int b = 0; b < 2; b++) {
            for (int what = 0; what < 6; what++) {
                check.due("32: of(" + b + ", " + what + ")", x.of(b, what), due[b][what]);
            }
        }
        check.due("32: ROW", x.row(0, 1, 7), 7);
        int[] told = {2, 21, 5, 7, 4};
        for (int what = 0; what < 5; what++) {
            check.due("32: told " + what, x.told(what), told[what]);
        }
        check.due("32: SEEN", x.count(2), 1);
        check.due("32: SEEN as it was", x.where(0), 63);
        check.due("32: ROTA", x.count(3), 2);
        check.due("32: ROTA as it was: an HOUR, 1 is TAKEN", x.ends(0), 0);
        check.due("32: BOOK", x.count(4), 1);
        check.due("32: BOOK as it was", x.looked(), -5);
        check.due("32: WET of all is of those that are", x.told(5), wet);
        check.due("32: CRACKS of all", x.told(6), 2);
        check.due("32: DRY are none", x.told(7), 0);
        check.due("32: MEAN is of those that are", x.mean(0, 1) * 1000 + x.mean(0, 0), (80 + wet) % 2 == 0 ? 1000 + (80 + wet) / 2 : 2080 + wet);
        check.due("32: another KIND may come as 2", x.pair(3, 9, 9), 2);
        check.due("32: the KIND of 2", x.of(2, 0), 3);
        check.due("32: the ROTA's n", x.undo(), 2);
    }

    /** What comes where a PAIR was has nothing of it. */
    private static void comesFresh() {
        BootsStove x = new BootsStove();
        x.image();
        x.pair(6, 0, 50);
        x.row(0, 2, 5);
        x.undo();
        x.pair(1, 0, 50);
        x.pass(1);
        x.take(0, true);
        x.undo();
        x.pair(6, 0, 50);
        check.due("32: not TAKEN", x.of(0, 4), 0);
        check.due("32: no CRACKS", x.of(0, 5), 0);
        check.due("32: a ROW of 0", x.row(0, 2, 1), 0);
    }

    /** SEEN, ROTA and BOOK come back row by row. */
    private static void imageKeepsRows() {
        BootsStove x = new BootsStove();
        x.pair(0, 0, 50);
        x.pair(0, 0, 60);
        x.see(1, 53, 1);
        x.rota(2, 1);
        x.rota(0, 0);
        x.book(1, 60);
        x.image();
        x.see(-1, 0, 0);
        x.see(0, 51, 2);
        x.rota(-1, 0);
        x.rota(0, 0);
        x.rota(3, 0);
        x.book(-1, 0);
        x.book(0, 51);
        x.undo();
        check.due("32: SEEN of PAIR 1", x.wets(1, 0) * 100 + x.wets(1, 1), 160);
        check.due("32: SEEN of PAIR 0 is none", x.wets(0, 0), 100);
        check.due("32: ROTA: 1 is TAKEN, an HOUR", x.ends(0), 40);
        check.due("32: BOOK of PAIR 1", x.looked(), -5);
        x.wet(1, 61);
        check.due("32: BOOK of PAIR 1", x.looked(), 0);
    }

    private static void imageKeepsNot() {
        BootsStove x = new BootsStove();
        x.image();
        x.tape(0, 0, 4);
        x.item(0, 0, 9);
        Check.hut(x, "cool 5");
        x.feed('c');
        x.pair(0, 0, 1);
        x.act(0, 2, 1);
        x.undo();
        check.due("32: no HUT held then", x.told(3), 1);
        check.due("32: the HUTS stay", x.count(1), 1);
        check.due("32: THE TEXT stays", x.count(5), 1);
        check.due("32: the TAPES stay", x.read(0, 0), 9);
        check.due("32: THE TRACE stays", x.count(6), 3);
        check.due("32: the next HUT", Check.hut(x, "ool 6"), 1);
        check.due("32: it holds", x.told(3), 6);
        x.undo();
        check.due("32: a FAULT", Check.hut(x, "x"), -10);
        check.due("32: the one that held, none, holds", x.told(3), 1);
    }
}
