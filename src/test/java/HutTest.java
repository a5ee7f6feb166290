/** Promises 10 to 12: THE TEXT, HUTS and their FAULTS, what is told. */
public final class HutTest {
    private static final Check check = new Check();

    public static void main(String[] args) {
        promise10();
        promise11();
        faults();
        nesting();
        clauses();
        tests();
        joined();
        promise12();
        check.end("HutTest");
    }

    private static void promise10() {
        BootsStove x = new BootsStove();
        check.due("10: -1", x.feed(-1), BootsStove.BAD);
        check.due("10: 128", x.feed(128), BootsStove.BAD);
        check.due("10: 0", x.feed(0), 1);
        check.due("10: 127", x.feed(127), 2);
        for (int n = 3; n <= 100; n++) {
            check.due("10: byte " + n, x.feed('a'), n);
        }
        check.due("10: 101", x.feed('a'), BootsStove.FULL);
        check.due("10: BAD ahead of FULL", x.feed(128), BootsStove.BAD);
        check.due("10: it has", x.count(5), 100);
    }

    private static void promise11() {
        BootsStove x = new BootsStove();
        for (int n = 0; n < 5; n++) {
            check.due("11: HUT " + n, Check.hut(x, "cool " + n), n);
            check.due("11: the newest holds", x.told(3), n);
            check.due("11: THE TEXT is empty", x.count(5), 0);
        }
        check.due("11: a FAULT", Check.hut(x, "cool x"), -15);
        check.due("11: the one that held holds", x.told(3), 4);
        check.due("11: THE TEXT is empty behind a FAULT", x.count(5), 0);
        check.due("11: a FAULT is no HUT", x.count(1), 5);
        check.due("11: the last", Check.hut(x, "log 7"), 5);
        check.due("11: COOL without", x.told(3), 1);
        check.due("11: there are 6", Check.hut(x, "cool 9"), BootsStove.FULL);
        check.due("11: FULL ahead of a FAULT", Check.hut(x, "x"), BootsStove.FULL);
        check.due("11: THE TEXT stays", x.count(5), 7);
        check.due("11: the newest still holds", x.told(4), 7);

        BootsStove again = new BootsStove();
        again.pair(0, 0, 50);
        Check.hut(again, "dry 50 b=0;cool 9;log 9;x");
        check.due("11: nothing of a FAULT's clauses", again.of(0, 10), 10);
        Check.hut(again, "dry 50 b=3;cool 9;log 9;x");
        check.due("11: a HUT behind it", Check.hut(again, "dry 2 b=0"), 0);
        check.due("11: has its own clauses alone", again.of(0, 10), 12);
        check.due("11: COOL and LOG without", again.told(3) * 100 + again.told(4), 106);
    }

    private static void fault(String text, int due) {
        BootsStove x = new BootsStove();
        check.due("11: " + text, Check.hut(x, text), -10 - due);
        check.due("11: no HUT by " + text, x.count(1), 0);
        check.due("11: COOL and LOG as without, by " + text, x.told(3) * 100 + x.told(4), 106);
    }

    private static void reads(String text) {
        check.due("11: " + text, Check.hut(new BootsStove(), text), 0);
    }

    private static void faults() {
        String[] words = {"", "d", "dr", "dry", "dry ", "dry 1", "dry 12", "dry 1 ", "dry 1 b", "dry 1 b=", "cool", "cool ", "log", "log ",
            "da", "dam", "damp", "damp 9 ", "c", "co", "coo", "l", "lo", "dry 1 (", "dry 1 (b=1", "dry 1 !", "dry 1 b=1&", "dry 1 b=1|",
            "log 1;", "cool 1;d"};
        for (String word : words) {
            fault(word, word.length());
        }
        fault("Dry 1 b=1", 0);
        fault(" dry 1 b=1", 0);
        fault("drip", 2);
        fault("drx", 2);
        fault("dx", 1);
        fault("daap", 2);
        fault("damn", 3);
        fault("cxol", 1);
        fault("coxl", 2);
        fault("coox", 3);
        fault("lxg", 1);
        fault("lox", 2);
        fault("dry1 b=1", 3);
        fault("dry  1 b=1", 4);
        fault("dry x b=1", 4);
        fault("dry -1 b=1", 4);
        fault("dry 123 b=1", 6);
        fault("dry 1  b=1", 6);
        fault("dry 1;", 5);
        fault("dry 1b=1", 5);
        fault("dry 1 x=1", 6);
        fault("dry 1 b!1", 7);
        fault("dry 1 b==1", 8);
        fault("dry 1 b=x", 8);
        fault("dry 1 b=123", 10);
        fault("dry 1 b=1 ", 9);
        fault("dry 1 b=1)", 9);
        fault("dry 1 )", 6);
        fault("dry 1 (b=1;", 10);
        fault("dry 1 b=1&&b=1", 10);
        fault("dry 1 b=1||b=1", 10);
        fault("dry 1 b=1!b=1", 9);
        fault("dry 1 b=1(", 9);
        fault("dry 1 ()", 7);
        fault("log 1 b=1", 5);
        fault("cool 100", 7);
        fault("log 1,", 5);
        fault("cool 1;;log 1", 7);
        fault(";cool 1", 0);
        fault("cool 1;x", 7);
        fault("cool 1:log 1", 6);
        fault("dry /", 4);
        fault("dry :", 4);
        fault("\0", 0);
        fault("cool 1\0", 6);
    }

    private static void nesting() {
        reads("dry 1 ((((b=1))))");
        reads("dry 1 !!!!b=1");
        reads("dry 1 !(!(b=1))");
        reads("dry 1 (!(!b=1))&!!(!b=1|p=1)");
        fault("dry 1 (!(!b=1))&!!(!(b=1|p=1))", 20);
        reads("dry 1 ((((b=1|p=1)&v=1)|k=1)&w=1);damp 1 ((((b=1))))");
        reads("dry 1 !!!!b=1&!!!!b=1|((((b=1))))|!!!!b=1");
        fault("dry 1 (((((b=1)))))", 10);
        fault("dry 1 !!!!!b=1", 10);
        fault("dry 1 !(!(!b=1))", 10);
        fault("dry 1 ((((b=1&!b=1))))", 14);
        fault("dry 1 ((((b=1|(b=1)))))", 14);
        fault("dry 1 !!!!(b=1)", 10);
        fault("dry 1 ((((b=1)))))", 17);
    }

    private static void clauses() {
        String ten = "log 1;log 1;log 1;log 1;log 1;log 1;log 1;log 1;log 1;log 1";
        reads(ten);
        fault(ten + ";log 1", ten.length());
        fault(ten + ";", ten.length());
        reads(ten.substring(6));
        String long99 = "dry 1 " + "b=1|".repeat(23) + "b";
        check.due("11: 99 bytes", long99.length(), 99);
        fault(long99 + "=", 100);
        String all100 = "dry 1 " + "b=1|".repeat(22) + "!(b=1)";
        check.due("11: 100 bytes", all100.length(), 100);
        reads(all100);
    }

    /** What a HUT with dry 9 adds to a PAIR's DRIES of 0 at PLACE p (HEAT is 0). */
    private static int adds(BootsStove x, int pair, int place) {
        x.set(0, 0);
        return x.of(pair, 10 + place);
    }

    private static BootsStove by(String e) {
        BootsStove x = new BootsStove();
        x.pair(0, 4, 57);
        x.pair(3, 2, 8);
        x.pass(13);
        x.wet(0, 57);
        x.wet(1, 8);
        check.due("11: " + e, Check.hut(x, "dry 9 " + e), 0);
        return x;
    }

    /** PAIR 0: b 0, k 0, v 4, w 5; PAIR 1: b 1, k 3, v 2, w 0; h 3. */
    private static void holds(String e, int pair, int place, boolean is) {
        check.due("11: " + e + " of PAIR " + pair + " at " + place, adds(by(e), pair, place), is ? 9 : 0);
    }

    private static void tests() {
        String[] values = {"b0", "p2", "k0", "v4", "w5", "h3"};
        String[] others = {"b1", "p5", "k3", "v2", "w0", "h3"};
        for (int i = 0; i < 6; i++) {
            for (int pair = 0; pair < 2; pair++) {
                String letter = (pair == 0 ? values : others)[i].substring(0, 1);
                int value = (pair == 0 ? values : others)[i].charAt(1) - '0';
                int place = pair == 0 ? 2 : 5;
                for (int n = 0; n < 7; n++) {
                    holds(letter + "=" + n, pair, place, value == n);
                    holds(letter + "<" + n, pair, place, value < n);
                    holds(letter + ">0" + n, pair, place, value > n);
                }
            }
        }
        holds("v<99", 0, 0, true);
        holds("b<0|b=0", 0, 0, true);
        holds("b<0&b=0", 0, 0, false);
        holds("v=14", 0, 0, false);
        holds("w=05", 0, 0, true);
    }

    private static void joined() {
        String yes = "b=0";
        String no = "b=5";
        holds(yes + "|" + no, 0, 0, true);
        holds(no + "|" + yes, 0, 0, true);
        holds(no + "|" + no, 0, 0, false);
        holds(yes + "&" + no, 0, 0, false);
        holds(no + "&" + yes, 0, 0, false);
        holds(yes + "&" + yes, 0, 0, true);
        holds("!" + yes, 0, 0, false);
        holds("!" + no, 0, 0, true);
        holds("!!" + no, 0, 0, false);
        holds(yes + "|" + yes + "&" + no, 0, 0, true);
        holds(no + "&" + no + "|" + yes, 0, 0, true);
        holds("(" + yes + "|" + yes + ")&" + no, 0, 0, false);
        holds("!" + no + "&" + no, 0, 0, false);
        holds("!(" + no + "&" + no + ")", 0, 0, true);
        holds("!" + yes + "|" + yes, 0, 0, true);
        holds("!(" + yes + "|" + yes + ")", 0, 0, false);
        holds(no + "|" + no + "|" + no + "|" + yes, 0, 0, true);
        holds(yes + "&" + yes + "&" + yes + "&" + no, 0, 0, false);

        BootsStove x = new BootsStove();
        x.pair(0, 0, 50);
        Check.hut(x, "dry 40 b=0;cool 3;dry 20 b=1;damp 7 p>1;log 4;dry 9 w=5;cool 2;damp 99 b=1");
        check.due("11: dry 40, 9 and WARM 10", x.of(0, 10), 59);
        check.due("11: damp 7, WARM 4", x.of(0, 12), 46);
        check.due("11: the last cool", x.told(3), 2);
        check.due("11: the one log", x.told(4), 4);
        Check.hut(x, "dry 1 b=0");
        check.due("11: COOL without", x.told(3), 1);
        check.due("11: LOG without", x.told(4), 6);
        check.due("11: the new one alone", x.of(0, 10), 11);
        Check.hut(x, "cool 0;log 0");
        check.due("11: nothing added", x.of(0, 10), 10);
        check.due("11: COOL 0", x.pass(3) + 10 * x.told(1), 103);
        check.due("11: LOG 0", x.stoke(), 10);
    }

    private static void promise12() {
        BootsStove x = new BootsStove();
        x.pair(1, 0, 0);
        x.pair(0, 0, 40);
        x.pair(0, 0, 7);
        x.pair(0, 0, 0);
        x.take(2, true);
        x.take(3, true);
        x.put(3, 5);
        x.set(0, 13);
        x.set(1, 8);
        int[] due = {0, 13, 8, 1, 6, 40, 0, 9};
        for (int what = 0; what < 8; what++) {
            check.due("12: what " + what, x.told(what), due[what]);
        }
        int[] warm = {13, 10, 7, 4, 1, 0};
        int[] who = {0, 1, 2, -5, -5, 3};
        for (int p = 0; p < 6; p++) {
            check.due("12: WARM of " + p, x.told(10 + p), warm[p]);
            check.due("12: who is at " + p, x.told(20 + p), who[p]);
        }
        for (int what : new int[] {-1, 8, 9, 16, 19, 26, Integer.MIN_VALUE, Integer.MAX_VALUE}) {
            check.due("12: no what " + what, x.told(what), BootsStove.NONE);
        }
        x.wet(0, 5);
        check.due("12: bit 3 alone", x.told(7), 8);
        x.wet(0, 0);
        x.pass(2);
        check.due("12: HOUR", x.told(0), 2);
        check.due("12: HEAT", x.told(1), 11);
        check.due("12: WET", x.told(5), 40 - 10 - 9);
        check.due("12: CRACKS", x.told(6), 2);
        x.take(0, true);
        check.due("12: CRACKS of all, TAKEN too", x.told(6), 2);
    }
}
