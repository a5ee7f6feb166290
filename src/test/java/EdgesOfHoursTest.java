/** "Terms" 1, sentence by sentence: WARM, SUM, what each KIND DRIES, what SPOILS, what an HOUR and a log do. */
public final class EdgesOfHoursTest {
    private static final Check check = new Check();
    private static final int PAIR = 0, LEATHER = 1, FELT = 2, STUFFED = 3, GUIDES = 4, SOCKS = 5, TOLD = 6;

    public static void main(String[] args) {
        warm();
        sum();
        atLeastNothing();
        leather();
        felt();
        stuffed();
        guides();
        guidesByHour();
        socks();
        told();
        toldByHour();
        toldLate();
        spoilsLeather();
        spoilsGuides();
        spoilsOthers();
        aheadOfIt();
        lessWet();
        takenStays();
        cool();
        stoke();
        check.end("EdgesOfHoursTest");
    }

    private static BootsStove one(int kind, int v, int wet, int heat, String hut) {
        BootsStove x = new BootsStove();
        x.pair(kind, v, wet);
        x.set(0, heat);
        if (!hut.isEmpty()) {
            check.due(hut, Check.hut(x, hut), 0);
        }
        return x;
    }

    /** What one DRIES at PLACE 0 at HOUR 0. */
    private static int dries(int kind, int v, int wet, int heat, String hut) {
        return one(kind, v, wet, heat, hut).of(0, 10);
    }

    private static void warm() {
        check.sentence("WARM of a PLACE: HEAT less 3 times its number (0 at least)");
        int[][] due = {
            {0, 0, 0, 0, 0, 0, 0}, {1, 1, 0, 0, 0, 0, 0}, {2, 2, 0, 0, 0, 0, 0}, {3, 3, 0, 0, 0, 0, 0}, {4, 4, 1, 0, 0, 0, 0},
            {14, 14, 11, 8, 5, 2, 0}, {15, 15, 12, 9, 6, 3, 0}, {16, 16, 13, 10, 7, 4, 1}, {30, 30, 27, 24, 21, 18, 15}};
        for (int[] row : due) {
            BootsStove x = one(PAIR, 0, 0, row[0], "");
            for (int p = 0; p < 6; p++) {
                check.due("WARM of " + p + " by HEAT " + row[0], x.told(10 + p), row[1 + p]);
                check.due("a PAIR at " + p + " by HEAT " + row[0], x.of(0, 10 + p), row[1 + p]);
            }
        }
    }

    private static void sum() {
        check.sentence("SUM of a PAIR at a PLACE: WARM, and the n of all dry whose E holds, less those of all damp, together");
        check.due("WARM alone", dries(PAIR, 0, 0, 7, "dry 9 b=1;damp 9 b=1"), 7);
        check.due("a dry", dries(PAIR, 0, 0, 7, "dry 9 b=0"), 16);
        check.due("a damp", dries(PAIR, 0, 0, 7, "damp 3 b=0"), 4);
        check.due("dry and damp, damp first", dries(PAIR, 0, 0, 0, "damp 8 b=0;dry 9 b=0"), 1);
        check.due("all of them", dries(PAIR, 0, 0, 5, "dry 1 b=0;damp 2 b=0;dry 4 b=0;damp 8 b=1;dry 16 b=0;damp 7 b=0"), 17);
        String most = "dry 99 b=0;dry 99 b=0;dry 99 b=0;dry 99 b=0;dry 99 b=0;dry 99 b=0;dry 99 b=0;dry 99 b=0;dry 9 b=0";
        check.due("nine", dries(PAIR, 0, 0, 30, most), 30 + 8 * 99 + 9);
        check.sentence("(may be below 0)");
        // -3: with v 9 it is 6, where 0 and v would be 9
        check.due("STUFFED by -3", dries(STUFFED, 9, 50, 0, "damp 3 b=0"), 6);
        check.due("TOLD by -9", dries(TOLD, 9, 50, 0, "damp 9 b=0"), 0);
        check.due("TOLD by -8", dries(TOLD, 9, 50, 0, "damp 8 b=0"), 1);
        check.due("GUIDES by -1", dries(GUIDES, 0, 0, 0, "damp 1 b=0"), 1);
        check.due("GUIDES by -2", dries(GUIDES, 0, 0, 0, "damp 2 b=0"), 0);
    }

    private static void atLeastNothing() {
        check.sentence("DRIES of a PAIR at a PLACE (0 at least in the end)");
        for (int kind = 0; kind <= 6; kind++) {
            BootsStove x = one(kind, 9, 99, 30, "damp 99 b=0");
            for (int p = 0; p < 6; p++) {
                check.due("KIND " + kind + " far below at " + p, x.of(0, 10 + p), 0);
            }
            check.due("it does not become WETTER", x.on(60, 10), 99);
        }
        check.due("PAIR by 1", dries(PAIR, 0, 0, 3, "damp 2 b=0"), 1);
        check.due("PAIR by 0", dries(PAIR, 0, 0, 3, "damp 3 b=0"), 0);
        check.due("PAIR by -1", dries(PAIR, 0, 0, 3, "damp 4 b=0"), 0);
        check.due("STUFFED by 1", dries(STUFFED, 2, 50, 0, "damp 1 b=0"), 1);
        check.due("STUFFED by 0", dries(STUFFED, 2, 50, 0, "damp 2 b=0"), 0);
        check.due("STUFFED by -1", dries(STUFFED, 2, 50, 0, "damp 3 b=0"), 0);
    }

    private static void leather() {
        check.sentence("LEATHER: SUM; the half (cut toward 0) of that, if WARM is more than 8.");
        check.due("WARM 8", dries(LEATHER, 0, 0, 8, ""), 8);
        check.due("WARM 9", dries(LEATHER, 0, 0, 9, ""), 4);
        check.due("WARM 10", dries(LEATHER, 0, 0, 10, ""), 5);
        check.due("WARM 0", dries(LEATHER, 0, 0, 0, ""), 0);
        check.due("WARM 30", dries(LEATHER, 0, 0, 30, ""), 15);
        check.due("by WARM 8, not by SUM 18", dries(LEATHER, 0, 0, 8, "dry 10 b=0"), 18);
        check.due("by WARM 9, not by SUM 3", dries(LEATHER, 0, 0, 9, "damp 6 b=0"), 1);
        check.due("by -1", dries(LEATHER, 0, 0, 9, "damp 10 b=0"), 0);
        BootsStove x = one(LEATHER, 0, 0, 12, "");
        check.due("WARM 9 at PLACE 1", x.of(0, 11), 4);
        x.set(0, 11);
        check.due("WARM 8 at PLACE 1", x.of(0, 11), 8);
        check.due("v is nothing to it", dries(LEATHER, 9, 99, 9, ""), 4);
    }

    private static void felt() {
        check.sentence("FELT: the half (cut toward 0) of SUM.");
        for (int heat = 0; heat <= 30; heat++) {
            check.due("HEAT " + heat, dries(FELT, 9, 9, heat, ""), heat / 2);
        }
        check.due("by -1", dries(FELT, 0, 0, 0, "damp 1 b=0"), 0);
        check.due("by -3", dries(FELT, 0, 0, 0, "damp 3 b=0"), 0);
        check.due("the half of it all", dries(FELT, 0, 0, 7, "dry 4 b=0;damp 2 b=0"), 4);
    }

    private static void stuffed() {
        check.sentence("STUFFED: SUM, and v, if WET is 50 or more.");
        check.due("49", dries(STUFFED, 7, 49, 10, ""), 10);
        check.due("50", dries(STUFFED, 7, 50, 10, ""), 17);
        check.due("51", dries(STUFFED, 7, 51, 10, ""), 17);
        check.due("0", dries(STUFFED, 7, 0, 10, ""), 10);
        check.due("99", dries(STUFFED, 7, 99, 10, ""), 17);
        check.due("v 0", dries(STUFFED, 0, 99, 10, ""), 10);
        check.due("v 9", dries(STUFFED, 9, 99, 10, ""), 19);
    }

    private static void guides() {
        check.sentence("GUIDES: as LEATHER, and 2, if HOUR is a multiple of 4.");
        check.due("WARM 8", dries(GUIDES, 0, 0, 8, ""), 10);
        check.due("WARM 9", dries(GUIDES, 0, 0, 9, ""), 6);
        check.due("v is nothing to it", dries(GUIDES, 9, 99, 9, ""), 6);
        check.due("WARM 0", dries(GUIDES, 0, 0, 0, ""), 2);
        check.sentence("the half (cut toward 0) of that");
        // WARM 9; -3 by 2 is -1, not -2, and 2
        check.due("-3", dries(GUIDES, 0, 0, 9, "damp 12 b=0"), 1);
        check.due("-1", dries(GUIDES, 0, 0, 9, "damp 10 b=0"), 2);
        check.due("-2", dries(GUIDES, 0, 0, 9, "damp 11 b=0"), 1);
        check.due("-4", dries(GUIDES, 0, 0, 9, "damp 13 b=0"), 0);
        check.due("1", dries(GUIDES, 0, 0, 9, "damp 8 b=0"), 2);
    }

    private static void guidesByHour() {
        check.sentence("and 2, if HOUR is a multiple of 4.");
        BootsStove x = one(GUIDES, 0, 0, 5, "cool 0");
        for (int hour = 0; hour <= 12; hour++) {
            check.due("HOUR " + hour, x.of(0, 10), hour % 4 == 0 ? 7 : 5);
            x.pass(1);
        }
        BootsStove late = one(GUIDES, 0, 0, 0, "");
        for (int n = 0; n < 166; n++) {
            late.pass(60);
        }
        late.pass(35);
        check.due("HOUR 9995", late.of(0, 10), 0);
        late.pass(1);
        check.due("HOUR 9996", late.of(0, 10), 2);
        late.pass(3);
        late.wet(0, 50);
        check.due("HOUR 9999", late.of(0, 10), 0);
        check.due("by HOUR 9999", late.on(1, 10), 50);
        check.due("by HOUR 10000", late.on(2, 10), 48);
    }

    private static void socks() {
        check.sentence("SOCKS: as FELT; 0, if WET is less than v.");
        for (int v = 0; v <= 9; v++) {
            BootsStove x = one(SOCKS, v, 0, 11, "");
            for (int wet = 0; wet <= 11; wet++) {
                x.wet(0, wet);
                check.due("v " + v + ", WET " + wet, x.of(0, 10), wet < v ? 0 : 5);
            }
        }
        check.due("as FELT, of it all", dries(SOCKS, 1, 1, 7, "dry 4 b=0;damp 2 b=0"), 4);
        check.due("as FELT, by -3", dries(SOCKS, 0, 0, 0, "damp 3 b=0"), 0);
        check.due("it stays as WET as that", one(SOCKS, 9, 12, 8, "").on(60, 10), 8);
    }

    private static void told() {
        check.sentence("its ROW (four numbers 0 .. 9; 0 at first)");
        BootsStove x = one(TOLD, 0, 0, 0, "");
        for (int part = 0; part < 4; part++) {
            check.due("part " + part + " at first", x.row(0, part, 9), 0);
            check.due("part " + part + " becomes 9", x.row(0, part, 0), 9);
            check.due("part " + part + " becomes 0", x.row(0, part, part), 0);
            check.due("not 10", x.row(0, part, 10), BootsStove.BAD);
            check.due("not -1", x.row(0, part, -1), BootsStove.BAD);
        }
        check.due("part 4", x.row(0, 4, 1), BootsStove.NONE);
        check.due("part -1", x.row(0, -1, 1), BootsStove.NONE);
        for (int part = 0; part < 4; part++) {
            check.due("each its own", x.row(0, part, 0), part);
        }
        for (int kind = 0; kind < 6; kind++) {
            check.due("KIND " + kind + " has none", one(kind, 0, 0, 0, "").row(0, 0, 1), BootsStove.STATE);
        }
        check.sentence("TOLD: as STUFFED");
        check.due("49", dries(TOLD, 7, 49, 10, ""), 10);
        check.due("50", dries(TOLD, 7, 50, 10, ""), 17);
    }

    private static void toldByHour() {
        check.sentence("its ROW at HOUR modulo 4 more");
        BootsStove x = one(TOLD, 0, 0, 1, "cool 0");
        int[] row = {9, 2, 4, 7};
        for (int part = 0; part < 4; part++) {
            x.row(0, part, row[part]);
        }
        for (int hour = 0; hour <= 8; hour++) {
            check.due("HOUR " + hour, x.of(0, 10), 1 + row[hour % 4]);
            x.pass(1);
        }
        x.wet(0, 99);
        x.set(0, 0);
        // 9, 10, 11, 12
        check.due("four of them", x.on(4, 10), 99 - 22);
    }

    private static void toldLate() {
        BootsStove x = one(TOLD, 0, 0, 0, "");
        x.row(0, 3, 5);
        x.row(0, 0, 7);
        for (int n = 0; n < 166; n++) {
            x.pass(60);
        }
        x.pass(39);
        x.wet(0, 99);
        check.due("HOUR 9999", x.of(0, 10), 5);
        check.due("by HOUR 9999", x.on(1, 10), 94);
        check.due("by HOUR 10000", x.on(2, 10), 87);
    }

    private static void spoilsLeather() {
        check.sentence("SPOILS: LEATHER, if WARM of its PLACE is more than 8");
        check.due("8", one(LEATHER, 0, 0, 8, "").of(0, 6), 0);
        check.due("9", one(LEATHER, 0, 0, 9, "").of(0, 6), 1);
        check.due("8 with v 0 and a dry", one(LEATHER, 0, 99, 8, "dry 99 b=0").of(0, 6), 0);
        check.due("9 with v 9 and a damp", one(LEATHER, 9, 0, 9, "damp 99 b=0").of(0, 6), 1);
        for (int p = 0; p < 6; p++) {
            BootsStove x = one(LEATHER, 0, 0, 8 + 3 * p, "");
            x.put(0, p);
            check.due("8 at " + p, x.of(0, 6), 0);
            x.set(0, 9 + 3 * p);
            check.due("9 at " + p, x.of(0, 6), 1);
            check.due("cracks at " + p, x.on(1, 2), 1);
        }
    }

    private static void spoilsGuides() {
        check.sentence("GUIDES, if it is more than 8 and v, together");
        for (int v = 0; v <= 9; v++) {
            BootsStove x = one(GUIDES, v, 0, 8 + v, "");
            check.due("v " + v + " by 8 and v", x.of(0, 6), 0);
            check.due("v " + v + " does not crack", x.on(1, 2), 0);
            x.set(0, 9 + v);
            check.due("v " + v + " by 9 and v", x.of(0, 6), 1);
            check.due("v " + v + " cracks", x.on(1, 2), 1);
            x.put(0, 1);
            check.due("v " + v + " at PLACE 1", x.of(0, 6), 0);
            x.set(0, 12 + v);
            check.due("v " + v + " at PLACE 1 by 9 and v", x.of(0, 6), 1);
        }
    }

    private static void spoilsOthers() {
        check.sentence("others never");
        for (int kind : new int[] {PAIR, FELT, STUFFED, SOCKS, TOLD}) {
            BootsStove x = one(kind, 0, 99, 30, "dry 99 b=0;cool 0");
            check.due("KIND " + kind, x.of(0, 6), 0);
            check.due("KIND " + kind + " does not crack", x.on(60, 2), 0);
        }
    }

    private static void aheadOfIt() {
        check.sentence("An HOUR goes, by how all is ahead of it");
        BootsStove leather = one(LEATHER, 0, 50, 9, "");
        leather.pass(1);
        check.due("by WARM 9, half of it", leather.of(0, 2), 46);
        check.due("by WARM 9 it cracks", leather.of(0, 5), 1);
        leather.pass(1);
        check.due("by WARM 8", leather.of(0, 2), 38);
        check.due("by WARM 8 it does not", leather.of(0, 5), 1);
        BootsStove stuffed = one(STUFFED, 9, 50, 3, "cool 0");
        stuffed.pass(1);
        check.due("WET 50, so v too", stuffed.of(0, 2), 38);
        stuffed.pass(1);
        check.due("WET 38", stuffed.of(0, 2), 35);
        BootsStove guides = one(GUIDES, 0, 50, 0, "");
        guides.pass(1);
        check.due("HOUR 0", guides.of(0, 2), 48);
        BootsStove byHour = one(PAIR, 0, 50, 0, "dry 7 h=0");
        byHour.pass(2);
        check.due("h 0, then 1", byHour.of(0, 2), 43);
        BootsStove byWet = one(PAIR, 0, 50, 0, "dry 7 w=5");
        byWet.pass(2);
        check.due("w 5, then 4", byWet.of(0, 2), 43);
        BootsStove two = one(PAIR, 0, 50, 10, "");
        two.pair(PAIR, 0, 50);
        two.pass(1);
        check.due("the second by HEAT 10 too", two.of(1, 2), 43);
    }

    private static void lessWet() {
        check.sentence("WET is less by what it DRIES at its PLACE (0 at least)");
        for (int wet = 0; wet <= 12; wet++) {
            BootsStove x = one(PAIR, 0, wet, 10, "");
            x.pass(1);
            check.due("WET " + wet + " by 10", x.of(0, 2), Math.max(0, wet - 10));
        }
        BootsStove x = one(PAIR, 0, 99, 10, "dry 89 b=0");
        check.due("99 by 99", x.on(1, 10), 0);
        x.set(0, 9);
        check.due("99 by 98", x.on(1, 10), 1);
        x.set(0, 11);
        check.due("99 by 100", x.on(1, 10), 0);
        x.put(0, 1);
        check.due("99 by 97 at PLACE 1", x.on(1, 10), 2);
        check.sentence("CRACKS 1 more, if it SPOILS");
        BootsStove dry = one(LEATHER, 0, 0, 9, "cool 0");
        check.due("a DRY one too", dry.pass(3) + 10 * dry.of(0, 5), 33);
    }

    private static void takenStays() {
        check.sentence("of each PAIR that is not TAKEN");
        BootsStove x = one(LEATHER, 0, 50, 10, "cool 0");
        x.pair(LEATHER, 0, 50);
        x.set(0, 12);
        x.take(0, true);
        x.pass(2);
        check.due("WET of the TAKEN one", x.of(0, 2), 50);
        check.due("CRACKS of the TAKEN one", x.of(0, 5), 0);
        check.due("WET of the other by 4", x.of(1, 2), 42);
        check.due("CRACKS of the other", x.of(1, 5), 2);
        check.due("HEAT all the same", x.told(1), 12);
        check.due("HOUR all the same", x.told(0), 2);
        x.take(0, false);
        x.pass(1);
        check.due("WET when it is back, by 6", x.of(0, 2), 44);
        check.due("CRACKS when it is back", x.of(0, 5), 1);
    }

    private static void cool() {
        check.sentence("HEAT is COOL less (0 at least); HOUR is 1 more.");
        int[][] rows = {{5, 4, 1}, {5, 5, 0}, {5, 6, 0}, {30, 29, 1}, {30, 30, 0}, {30, 99, 0}, {0, 0, 0}, {30, 0, 30}, {0, 1, 0}};
        for (int[] row : rows) {
            BootsStove x = one(PAIR, 0, 0, row[0], "cool " + row[1]);
            check.due("HEAT " + row[0] + " COOL " + row[1], x.on(1, 1), row[2]);
            check.due("HOUR", x.pass(1), 1);
            check.due("HEAT " + row[0] + " COOL " + row[1], x.told(1), row[2]);
        }
        BootsStove nobody = new BootsStove();
        check.due("without PAIRS", nobody.pass(1) + 10 * nobody.told(1), 91);
    }

    private static void stoke() {
        check.sentence("To STOKE: WOOD is 1 less, HEAT LOG more (30 at most).");
        int[][] rows = {{23, 6, 29}, {24, 6, 30}, {25, 6, 30}, {30, 6, 30}, {0, 0, 0}, {0, 29, 29}, {0, 30, 30}, {0, 31, 30}, {0, 99, 30},
            {30, 99, 30}, {30, 0, 30}};
        for (int[] row : rows) {
            BootsStove x = one(PAIR, 0, 0, row[0], "log " + row[1]);
            check.due("HEAT " + row[0] + " LOG " + row[1], x.stoke(), row[2]);
            check.due("HEAT", x.told(1), row[2]);
            check.due("WOOD", x.told(2), 2);
        }
        check.sentence("STATE: there is no WOOD.");
        BootsStove x = new BootsStove();
        x.set(1, 1);
        check.due("the last", x.stoke(), 16);
        check.due("none", x.stoke(), BootsStove.STATE);
        check.due("HEAT stays", x.told(1), 16);
        check.due("WOOD stays", x.told(2), 0);
    }
}
