/** Objects of some states, and all that can be seen of one, to tell whether a call has changed anything. */
enum Houses {
    /** Nothing in it, and no IMAGE. */
    EMPTY,
    /** Five PAIRS, one TAKEN, and something of all that there is; THE IMAGE differs from how all is. */
    BUSY,
    /** All that has a most has it; no WOOD. */
    FULL,
    /** HOUR 9999. */
    LATE;

    BootsStove build() {
        BootsStove x = new BootsStove();
        switch (this) {
            case BUSY -> fillBusy(x);
            case FULL -> fillFull(x);
            case LATE -> fillLate(x);
            default -> { }
        }
        return x;
    }

    private static void fillBusy(BootsStove x) {
        x.pair(6, 5, 90);
        x.pair(1, 4, 80);
        x.pair(4, 1, 70);
        x.pair(2, 3, 60);
        x.pair(5, 9, 0);
        for (int part = 0; part < 4; part++) {
            x.row(0, part, part + 1);
        }
        x.put(0, 4);
        x.put(1, 0);
        x.set(0, 20);
        Check.hut(x, "dry 2 p<2&w>4;cool 2;log 4");
        x.pass(2);
        x.set(1, 5);
        x.see(3, 50, 2);
        x.see(1, 60, 0);
        x.see(3, 40, 4);
        x.rota(0, 0);
        x.rota(2, 1);
        x.rota(1, 0);
        x.book(4, 0);
        x.book(3, 1);
        fillTapes(x);
        x.image();
        x.take(2, true);
        x.wet(1, 77);
        x.pass(1);
        x.see(0, 9, 9);
        x.rota(0, 0);
        x.book(-1, 0);
        x.book(1, 5);
        x.act(0, 2, 3);
        Check.feed(x, "log 9;cool 3");
    }

    private static void fillTapes(BootsStove x) {
        int[] sizes = {3, 2, 0, 3, 2};
        int[] sorts = {0, 3, 2, 4, 0};
        for (int tape = 0; tape < 5; tape++) {
            x.tape(tape, sorts[tape], sizes[tape]);
            for (int i = 0; i < sizes[tape]; i++) {
                x.item(tape, i, 10 * tape + i + 60);
            }
        }
    }

    private static void fillFull(BootsStove x) {
        for (int b = 0; b < 6; b++) {
            x.pair(6 - b, b + 1, 99 - b);
        }
        for (int n = 0; n < 6; n++) {
            Check.hut(x, "log " + n);
        }
        for (int n = 0; n < 5; n++) {
            x.see(n, 90 - n, n);
        }
        for (int n = 0; n < 10; n++) {
            x.rota(n % 4, n % 5);
        }
        for (int n = 0; n < 8; n++) {
            x.book(n % 6, 99 - n % 6);
        }
        x.set(1, 0);
        x.image();
        for (int n = 0; n < 100; n++) {
            x.feed('d');
        }
    }

    private static void fillLate(BootsStove x) {
        x.pair(1, 0, 0);
        x.pair(6, 2, 0);
        x.row(1, 3, 4);
        Check.hut(x, "cool 0");
        for (int n = 0; n < 166; n++) {
            x.pass(60);
        }
        x.pass(39);
        x.wet(0, 40);
        x.wet(1, 40);
        x.image();
    }

    /**
     * All that can be seen of an object, in some 290 calls: first what can be asked, then what only calls show that
     * change it (the ROWS, the sorts of TAPES, what THE TEXT reads as, THE IMAGE), so it is of no use behind this.
     */
    static long[] whole(BootsStove x) {
        Answers all = new Answers();
        asked(x, all);
        for (int b = 0; b < 6; b++) {
            for (int p = 0; p < 6; p++) {
                all.add(x.of(b, 10 + p));
            }
            for (int n = 1; n <= 3; n++) {
                all.add(x.on(n, 10 + b));
            }
            all.add(x.wets(b, 0) * 100L + x.wets(b, 1));
            all.add(x.can(b, 0) * 100L + x.can(b, 1));
        }
        for (int i = 0; i <= 12; i++) {
            all.add(x.trace(i));
        }
        for (int tape = 0; tape < 6; tape++) {
            for (int i = 0; i < 4; i++) {
                all.add(x.read(tape, i));
            }
            all.add(x.item(tape, 0, 0x1234_5678_9abc_def1L));
            all.add(x.read(tape, 0));
        }
        for (int b = 0; b < 6; b++) {
            for (int part = 0; part < 4; part++) {
                all.add(x.row(b, part, 0));
            }
        }
        all.add(x.hut());
        all.add(x.told(3) * 100L + x.told(4));
        all.add(x.undo());
        asked(x, all);
        return all.row();
    }

    private static void asked(BootsStove x, Answers all) {
        for (int what = 0; what <= 6; what++) {
            all.add(x.count(what));
        }
        for (int what = 0; what <= 7; what++) {
            all.add(x.told(what));
        }
        for (int b = 0; b < 6; b++) {
            for (int what = 0; what <= 5; what++) {
                all.add(x.of(b, what));
            }
            all.add(x.where(b));
        }
        all.add(x.ends(0));
        all.add(x.ends(1));
        all.add(x.looked());
    }

    private static final class Answers {
        private final long[] row = new long[400];
        private int many;

        void add(long answer) {
            row[many] = answer;
            many++;
        }

        long[] row() {
            return java.util.Arrays.copyOf(row, many);
        }
    }
}
