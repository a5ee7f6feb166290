/** Promises 37 to 40: TAPES. */
public final class TapesTest {
    private static final Check check = new Check();

    public static void main(String[] args) {
        promise37();
        promises38And39();
        narrowed();
        promise40();
        overlaps();
        check.end("TapesTest");
    }

    private static void promise37() {
        BootsStove x = new BootsStove();
        check.due("37: TAPE 6", x.tape(6, 0, 1), BootsStove.NONE);
        check.due("37: TAPE is named first", x.tape(-1, 5, 61), BootsStove.NONE);
        check.due("37: sort 5", x.tape(0, 5, 1), BootsStove.BAD);
        check.due("37: sort -2", x.tape(0, -2, 1), BootsStove.BAD);
        check.due("37: n 61", x.tape(0, 0, 61), BootsStove.BAD);
        check.due("37: n MAX", x.tape(0, 4, Integer.MAX_VALUE), BootsStove.BAD);
        check.due("37: n -1", x.tape(0, 0, -1), -14);
        check.due("37: n MIN", x.tape(0, 3, Integer.MIN_VALUE), -14);
        check.due("37: sort is named ahead of SIZE", x.tape(0, 5, -1), BootsStove.BAD);
        check.due("37: nothing came", x.item(0, 0, 1), -11);
        for (int sort = 0; sort <= 4; sort++) {
            check.due("37: a row of sort " + sort, x.tape(sort, sort, 60), 1);
            check.due("37: its last item is 0", x.read(sort, 59), 0);
            check.due("37: it has no more", x.read(sort, 60), BootsStove.NO);
        }
        x.item(3, 59, 77);
        check.due("37: again", x.tape(3, 3, 60), 1);
        check.due("37: all 0", x.read(3, 59), 0);
        check.due("37: a refused one", x.tape(3, 3, 61) + x.item(3, 59, 5), -1);
        check.due("37: changes nothing", x.read(3, 59), 5);
        check.due("37: a row of none", x.tape(3, 1, 0), 1);
        check.due("37: has no item", x.item(3, 0, 0), -13);
        check.due("37: nothing, whatever n", x.tape(3, -1, 99), 1);
        check.due("37: nothing, whatever n", x.tape(2, -1, -99), 1);
        check.due("37: it holds nothing", x.item(3, 0, 0), -11);
        check.due("37: no item of it", x.read(3, 0), BootsStove.NO);
        check.due("37: TAPE 5 is one", x.tape(5, 0, 1), 1);
        check.due("38: TAPE 5 is one", x.item(5, 0, 3), 1);
        check.due("39: TAPE 5 is one", x.read(5, 0), 3);
        check.due("40: TAPE 5 is one", x.shift(5, 0, 5, 0, 1), 1);
    }

    private static void promises38And39() {
        BootsStove x = new BootsStove();
        check.due("38: TAPE 6", x.item(6, 0, 0), BootsStove.NONE);
        check.due("38: TAPE -1", x.item(-1, 0, 0), BootsStove.NONE);
        check.due("38: NOTHING", x.item(0, 0, 0), -11);
        check.due("38: NOTHING ahead of PLACE", x.item(0, -1, 0), -11);
        check.due("39: nothing there", x.read(0, 0), BootsStove.NO);
        x.tape(0, 3, 3);
        check.due("38: PLACE 3", x.item(0, 3, 0), -13);
        check.due("38: PLACE -1", x.item(0, -1, 0), -13);
        check.due("38: PLACE MIN", x.item(0, Integer.MIN_VALUE, 0), -13);
        check.due("38: it becomes", x.item(0, 2, -7), 1);
        check.due("39: it is", x.read(0, 2), -7);
        check.due("39: the others are 0", x.read(0, 1) + x.read(0, 0), 0);
        check.due("39: PLACE 3", x.read(0, 3), BootsStove.NO);
        check.due("39: PLACE -1", x.read(0, -1), BootsStove.NO);
        check.due("39: TAPE 6", x.read(6, 0), BootsStove.NO);
        check.due("39: TAPE -1", x.read(-1, 0), BootsStove.NO);
        check.due("39: another TAPE holds nothing", x.read(1, 0), BootsStove.NO);
    }

    private static void narrowed() {
        BootsStove x = new BootsStove();
        long[] values = {0, 1, -1, 127, 128, -128, -129, 255, 256, 32767, 32768, 70000, 2147483647L, 2147483648L, 4294967296L,
            9999999999L, Long.MAX_VALUE, Long.MIN_VALUE, 0x1_0000_0000_0000L};
        for (int sort = 0; sort <= 4; sort++) {
            x.tape(sort, sort, 1);
            for (long v : values) {
                x.item(sort, 0, v);
                long due = switch (sort) {
                    case 0 -> (byte) v;
                    case 1 -> (short) v;
                    case 2 -> (int) v;
                    case 3 -> v;
                    default -> v == 0 ? 0 : 1;
                };
                check.due("38: " + v + " in sort " + sort, x.read(sort, 0), due);
            }
        }
    }

    private static BootsStove rows() {
        BootsStove x = new BootsStove();
        x.tape(0, 2, 5);
        x.tape(1, 2, 3);
        x.tape(2, 3, 5);
        for (int i = 0; i < 5; i++) {
            x.item(0, i, i + 1);
            x.item(1, i, 10 * (i + 1));
        }
        return x;
    }

    private static void hold(String call, BootsStove x, int tape, int... due) {
        for (int i = 0; i < due.length; i++) {
            check.due("40: " + call + ", item " + i, x.read(tape, i), due[i]);
        }
    }

    private static void promise40() {
        BootsStove x = rows();
        check.due("40: TAPE 6", x.shift(6, 0, 0, 0, 1), BootsStove.NONE);
        check.due("40: other -1", x.shift(0, 0, -1, 0, 1), BootsStove.NONE);
        check.due("40: NONE ahead of NOTHING", x.shift(5, 0, 6, 0, 1), BootsStove.NONE);
        check.due("40: NOTHING here", x.shift(5, 0, 0, 0, 1), -11);
        check.due("40: NOTHING there", x.shift(0, 0, 5, 0, 1), -11);
        check.due("40: NOTHING ahead of PLACE", x.shift(0, -1, 5, 0, 1), -11);
        check.due("40: CAST", x.shift(0, 0, 2, 0, 1), -12);
        check.due("40: CAST ahead of PLACE", x.shift(0, 9, 2, 0, -1), -12);
        int max = Integer.MAX_VALUE;
        int min = Integer.MIN_VALUE;
        int[][] beyond = {{-1, 0, 1}, {0, -1, 1}, {0, 0, -1}, {0, 0, 4}, {0, 3, 1}, {5, 0, 1}, {3, 0, 3}, {0, 1, 3}, {6, 0, 0}, {0, 4, 0},
            {max, 0, 1}, {0, max, 1}, {0, 0, max}, {max, max, max}, {min, 0, 1}, {0, min, 1}, {0, 0, min}, {1, 1, max}};
        for (int[] b : beyond) {
            check.due("40: PLACE " + b[0] + " " + b[1] + " " + b[2], x.shift(0, b[0], 1, b[1], b[2]), -13);
        }
        hold("nothing changed", x, 1, 10, 20, 30);
        check.due("40: none, at the ends", x.shift(0, 5, 1, 3, 0), 0);
        check.due("40: none", x.shift(0, 0, 1, 0, 0), 0);
        check.due("40: two", x.shift(0, 3, 1, 0, 2), 2);
        hold("two", x, 1, 4, 5, 30);
        hold("the first keeps its own", x, 0, 1, 2, 3, 4, 5);
        check.due("40: all of the shorter", x.shift(0, 0, 1, 0, 3), 3);
        hold("three", x, 1, 1, 2, 3);
        check.due("40: a TAPE of the same sort", x.tape(3, 3, 1) + x.shift(2, 4, 3, 0, 1), 2);
    }

    private static void overlaps() {
        BootsStove x = rows();
        check.due("40: up", x.shift(0, 0, 0, 1, 4), 4);
        hold("up", x, 0, 1, 1, 2, 3, 4);
        x = rows();
        check.due("40: down", x.shift(0, 1, 0, 0, 4), 4);
        hold("down", x, 0, 2, 3, 4, 5, 5);
        x = rows();
        check.due("40: onto itself", x.shift(0, 0, 0, 0, 5), 5);
        hold("onto itself", x, 0, 1, 2, 3, 4, 5);
    }
}
