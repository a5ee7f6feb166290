import java.util.Arrays;
import java.util.List;

/** "Terms" 1, sentence by sentence: THE TEXT, HUTS, where the FAULT is, what CLAUSES and TESTS say. */
public final class EdgesOfHutsTest {
    private static final Check check = new Check();
    private static final int BAD = BootsStove.BAD, FULL = BootsStove.FULL;
    private static final String DIGITS = "0123456789", FORMS = "bpkvwh!(";

    public static void main(String[] args) {
        text();
        clauses();
        numbersOfClauses();
        signsOfWords();
        signsOfTests();
        ends();
        nested();
        valuesOfNested();
        letters();
        hours();
        numbersOfTests();
        newest();
        without();
        lastOnes();
        check.end("EdgesOfHutsTest");
    }

    private static int read(String text) {
        return Check.hut(new BootsStove(), text);
    }

    private static void reads(String text) {
        check.due(text, read(text), 0);
    }

    private static void fault(String text, int due) {
        check.due(text, read(text), -10 - due);
    }

    private static void text() {
        check.sentence("THE TEXT (bytes, 100 at most)");
        BootsStove x = new BootsStove();
        BootsStove y = new BootsStove();
        for (int sign = 0; sign < 128; sign++) {
            if (sign < 64) {
                check.due("sign " + sign, x.feed(sign), sign + 1);
            } else {
                check.due("sign " + sign, y.feed(sign), sign - 63);
            }
        }
        check.due("sign -1", x.feed(-1), BAD);
        check.due("sign 128", x.feed(128), BAD);
        for (int n = 65; n <= 100; n++) {
            check.due("byte " + n, x.feed('a'), n);
        }
        check.due("101", x.feed('a'), FULL);
        check.due("sign 128 ahead of FULL", x.feed(128), BAD);
        check.due("it has 100", x.count(5), 100);
        check.due("its FAULT is its first byte", x.hut(), -10);
        check.due("it is empty then", x.count(5), 0);
        check.due("one comes again", x.feed('c'), 1);

        String all100 = "log 12;log 12;dry 1 b=1;dry 1 b=1;dry 1 b=1;dry 1 b=1;dry 1 b=1;dry 1 b=1;dry 1 b=1;dry 10 b=10|p=01";
        check.due("a HUT of", all100.length(), 100);
        reads(all100);
        check.sentence("the end of THE TEXT, if it ends too early");
        fault(all100.substring(0, 99) + "&", 100);
        fault(all100.substring(0, 98), 98);
        fault(all100.substring(0, 96), 96);
        fault(all100.substring(0, 97) + "bbb", 97);
        fault("", 0);
    }

    private static void clauses() {
        check.sentence("CLAUSES, 1 to 10, with ; between");
        fault("", 0);
        fault(";", 0);
        String text = "";
        for (int many = 1; many <= 10; many++) {
            text += many == 1 ? "dry 1 b=0" : ";dry 1 b=0";
            BootsStove y = new BootsStove();
            y.pair(0, 0, 0);
            y.set(0, 0);
            check.due(many + " CLAUSES", Check.hut(y, text), 0);
            check.due("each of " + many + " does", y.of(0, 10), many);
            fault(text + " ", text.length());
            if (many < 10) {
                fault(text + ";", text.length() + 1);
            }
        }
        fault(text + ";", text.length());
        String ten = "cool 1;log 1;cool 2;log 2;cool 3;log 3;cool 4;log 4;cool 5;log 9";
        BootsStove z = new BootsStove();
        check.due("ten short ones", Check.hut(z, ten), 0);
        check.due("the tenth does", z.told(4), 9);
        fault(ten + ";", ten.length());
        fault(ten + ";log 1", ten.length());
        fault(ten + "0;log 1", ten.length() + 1);
        fault("cool 1;;log 1", 7);
        fault("cool 1,log 1", 6);
    }

    private static void numbersOfClauses() {
        check.sentence("n 1 or 2 digits");
        String[] numbers = {"0", "9", "00", "09", "10", "99"};
        int[] values = {0, 9, 0, 9, 10, 99};
        for (int i = 0; i < numbers.length; i++) {
            BootsStove x = new BootsStove();
            x.pair(0, 0, 0);
            x.set(0, 0);
            check.due("cool, log " + numbers[i], Check.hut(x, "cool " + numbers[i] + ";log " + numbers[i]), 0);
            check.due("COOL " + numbers[i], x.told(3), values[i]);
            check.due("LOG " + numbers[i], x.told(4), values[i]);
            check.due("dry " + numbers[i], Check.hut(x, "dry " + numbers[i] + " b=0"), 1);
            check.due("adds " + numbers[i], x.of(0, 10), values[i]);
            check.due("damp " + numbers[i], Check.hut(x, "dry 99 b=0;damp " + numbers[i] + " b=0"), 2);
            check.due("99 less " + numbers[i], x.of(0, 10), 99 - values[i]);
        }
        for (String word : new String[] {"cool ", "log ", "dry ", "damp "}) {
            fault(word + "100", word.length() + 2);
            fault(word + "000 b=0", word.length() + 2);
            fault(word + " b=0", word.length());
            fault(word + "-1", word.length());
            fault(word + "x", word.length());
            fault(word, word.length());
        }
    }

    /** Behind so much of a text, of all 128 signs just these can come next. */
    private static void next(String text, String allowed) {
        for (char sign = 0; sign < 128; sign++) {
            int got = read(text + sign);
            boolean isTaken = got == 0 || got == -10 - text.length() - 1;
            check.due(text + " and " + (int) sign + " goes on", isTaken ? 1 : 0, allowed.indexOf(sign) >= 0 ? 1 : 0);
            if (!isTaken) {
                check.due(text + " and " + (int) sign, got, -10 - text.length());
            }
        }
    }

    private static void signsOfWords() {
        check.sentence("The FAULT: the place of the first byte with which none begins so");
        next("", "dcl");
        next("d", "ra");
        next("dr", "y");
        next("da", "m");
        next("dam", "p");
        next("c", "o");
        next("co", "o");
        next("coo", "l");
        next("l", "o");
        next("lo", "g");
        check.sentence("one blank ahead of each part behind the word; n 1 or 2 digits");
        for (String word : new String[] {"dry", "damp", "cool", "log"}) {
            next(word, " ");
            next(word + " ", DIGITS);
        }
        for (String word : new String[] {"dry", "damp"}) {
            next(word + " 1", DIGITS + " ");
            next(word + " 12", " ");
            next(word + " 1 ", FORMS);
            next(word + " 12 ", FORMS);
        }
        for (String word : new String[] {"cool", "log"}) {
            next(word + " 1", DIGITS + ";");
            next(word + " 12", ";");
            next(word + " 12;", "dcl");
        }
    }

    private static void signsOfTests() {
        check.sentence("E: T or T|E. T: F or F&T. F: !F, (E), or a TEST: a letter, < or = or >, a number (1 or 2 digits)");
        for (char letter : "bpkvwh".toCharArray()) {
            next("dry 1 " + letter, "<=>");
        }
        for (char sign : "<=>".toCharArray()) {
            next("dry 1 w" + sign, DIGITS);
            next("dry 1 w" + sign + "4", DIGITS + "&|;");
            next("dry 1 w" + sign + "40", "&|;");
        }
        next("damp 1 h=1;", "dcl");
        next("damp 1 h=1&", FORMS);
        next("damp 1 h=1|", FORMS);
        next("damp 1 !", FORMS);
        next("damp 1 (", FORMS);
        next("damp 1 !h", "<=>");
        next("damp 1 (h", "<=>");
        next("damp 1 !h=1", DIGITS + "&|;");
        next("damp 1 (h=1", DIGITS + "&|)");
        next("damp 1 (h=12", "&|)");
        next("damp 1 (h=1&", FORMS);
        next("damp 1 (h=1|", FORMS);
        next("damp 1 (h=1)", "&|;");
        next("damp 1 (h=1)&", FORMS);
        next("damp 1 !(h=1)", "&|;");
        next("damp 1 (!h=1)", "&|;");
        next("damp 1 ((h=1)", "&|)");
        next("damp 1 ((h=1))", "&|;");
        check.sentence("A ( or ! within 4 others is none.");
        String letters = "bpkvwh";
        next("dry 1 (((", FORMS);
        next("dry 1 ((((", letters);
        next("dry 1 !!!", FORMS);
        next("dry 1 !!!!", letters);
        next("dry 1 (!(!", letters);
        next("dry 1 !(!(", letters);
        next("dry 1 ((((b=1&", letters);
        next("dry 1 ((((b=1|", letters);
        next("dry 1 ((((b=1)", "&|)");
        next("dry 1 ((((b=1)|", FORMS);
        next("dry 1 ((((b=1)&(", letters);
        next("dry 1 ((((b=1))))", "&|;");
        next("dry 1 ((((b=1))))&", FORMS);
        next("dry 1 !!!!b=1&", FORMS);
        next("dry 1 (!!!b=1&", FORMS);
        next("dry 1 (!!!b=1&!!", FORMS);
        next("dry 1 (!!!b=1&!!!", letters);
        next("dry 1 ((((b=1))));dry 1 (((", FORMS);
    }

    /** Each beginning of a HUT that is none itself has its FAULT at its end. */
    private static void ends() {
        check.sentence("the end of THE TEXT, if it ends too early");
        String whole = "dry 12 !(b=1|p>20)&v<3;damp 3 w=5;cool 9;log 10";
        List<String> huts = Arrays.asList("dry 12 !(b=1|p>20)", "dry 12 !(b=1|p>20)&v<3", "dry 12 !(b=1|p>20)&v<3;damp 3 w=5",
            "dry 12 !(b=1|p>20)&v<3;damp 3 w=5;cool 9", "dry 12 !(b=1|p>20)&v<3;damp 3 w=5;cool 9;log 1", whole);
        int read = 0;
        for (int n = 0; n <= whole.length(); n++) {
            String text = whole.substring(0, n);
            if (huts.contains(text)) {
                reads(text);
                read++;
            } else {
                fault(text, n);
            }
        }
        check.due("six of them are HUTS", read, 6);
    }

    /** The forms by the bits of a number, ! or (, around a TEST. */
    private static String around(String test, int bits, int many) {
        StringBuilder text = new StringBuilder();
        StringBuilder close = new StringBuilder();
        for (int k = 0; k < many; k++) {
            boolean isNot = (bits >> k & 1) != 0;
            text.append(isNot ? '!' : '(');
            close.append(isNot ? "" : ")");
        }
        return text + test + close;
    }

    private static void nested() {
        check.sentence("A ( or ! within 4 others is none.");
        for (int many = 1; many <= 4; many++) {
            for (int bits = 0; bits < 1 << many; bits++) {
                reads("dry 1 " + around("b=1", bits, many));
                reads("dry 1 b=1&" + around("b=1", bits, many) + "|" + around("b=1", bits, many));
            }
        }
        for (int many = 5; many <= 7; many++) {
            for (int bits = 0; bits < 1 << many; bits++) {
                fault("dry 1 " + around("b=1", bits, many), 10);
                fault("cool 1;damp 10 b=1|" + around("b=1", bits, many), 23);
            }
        }
    }

    private static void valuesOfNested() {
        check.sentence("F: !F, (E), or a TEST");
        for (int many = 1; many <= 4; many++) {
            for (int bits = 0; bits < 1 << many; bits++) {
                boolean isTurned = Integer.bitCount(bits) % 2 != 0;
                holds(around("b=0", bits, many), !isTurned);
                holds(around("b=1", bits, many), isTurned);
            }
        }
        check.sentence("E: T or T|E. T: F or F&T.");
        for (int bits = 0; bits < 8; bits++) {
            boolean[] is = {(bits & 1) != 0, (bits & 2) != 0, (bits & 4) != 0};
            String[] test = new String[3];
            for (int k = 0; k < 3; k++) {
                test[k] = is[k] ? "b=0" : "b=1";
            }
            holds(test[0] + "|" + test[1] + "|" + test[2], is[0] || is[1] || is[2]);
            holds(test[0] + "&" + test[1] + "&" + test[2], is[0] && is[1] && is[2]);
            holds(test[0] + "|" + test[1] + "&" + test[2], is[0] || (is[1] && is[2]));
            holds(test[0] + "&" + test[1] + "|" + test[2], (is[0] && is[1]) || is[2]);
            holds("(" + test[0] + "|" + test[1] + ")&" + test[2], (is[0] || is[1]) && is[2]);
            holds(test[0] + "&(" + test[1] + "|" + test[2] + ")", is[0] && (is[1] || is[2]));
            holds("!" + test[0] + "&" + test[1] + "|" + test[2], (!is[0] && is[1]) || is[2]);
            holds("!(" + test[0] + "&" + test[1] + ")|" + test[2], !(is[0] && is[1]) || is[2]);
            holds(test[0] + "|!" + test[1] + "&" + test[2], is[0] || (!is[1] && is[2]));
        }
    }

    private static void holds(String e, boolean is) {
        BootsStove x = new BootsStove();
        x.pair(0, 0, 0);
        x.set(0, 0);
        check.due(e, Check.hut(x, "dry 9 " + e), 0);
        check.due(e + " holds", x.of(0, 10), is ? 9 : 0);
    }

    /** Of six PAIRS at HEAT 0: whether a TEST holds of one at a PLACE. */
    private static void holdsOf(String test, int pair, int place, boolean is) {
        BootsStove x = six();
        check.due(test, Check.hut(x, "dry 90 " + test), 0);
        // without it a KIND's own come to 18 at most
        check.due(test + " of PAIR " + pair + " at " + place, x.of(pair, 10 + place) > 20 ? 1 : 0, is ? 1 : 0);
    }

    private static BootsStove six() {
        BootsStove x = new BootsStove();
        int[] kinds = {0, 1, 2, 3, 4, 6};
        int[] wets = {0, 9, 10, 89, 90, 99};
        for (int b = 0; b < 6; b++) {
            x.pair(kinds[b], b == 5 ? 9 : b, wets[b]);
        }
        x.set(0, 0);
        return x;
    }

    private static void letters() {
        check.sentence("of a PAIR and a PLACE b the number of the one, p of the other, k its KIND, v its v");
        holdsOf("b=0", 0, 5, true);
        holdsOf("b<1", 0, 5, true);
        holdsOf("b=5", 5, 0, true);
        holdsOf("b>4", 5, 0, true);
        holdsOf("b>5", 5, 0, false);
        holdsOf("b=4", 5, 4, false);
        holdsOf("p=0", 5, 0, true);
        holdsOf("p=5", 0, 5, true);
        // it is the PLACE that is asked of, not where the PAIR is
        holdsOf("p=0", 0, 5, false);
        holdsOf("p>4", 0, 5, true);
        holdsOf("p>5", 0, 5, false);
        holdsOf("k=0", 0, 3, true);
        holdsOf("k=6", 5, 3, true);
        holdsOf("k>5", 5, 3, true);
        holdsOf("k>6", 5, 3, false);
        // of its own KIND, not of one above
        holdsOf("k=1", 4, 3, false);
        holdsOf("k=3", 5, 3, false);
        holdsOf("v=0", 0, 3, true);
        holdsOf("v=9", 5, 3, true);
        holdsOf("v>8", 5, 3, true);
        holdsOf("v>9", 5, 3, false);
        check.sentence("w WET by 10 (cut)");
        int[] cut = {0, 0, 1, 8, 9, 9};
        for (int b = 0; b < 6; b++) {
            for (int n = 0; n <= 10; n++) {
                holdsOf("w=" + n, b, 2, cut[b] == n);
                holdsOf("w<" + n, b, 2, cut[b] < n);
                holdsOf("w>" + n, b, 2, cut[b] > n);
            }
        }
    }

    private static void hours() {
        check.sentence("h HOUR modulo 10");
        for (int hour : new int[] {0, 1, 9, 10, 11, 19, 20, 59, 60}) {
            for (int n = 0; n <= 10; n++) {
                BootsStove x = new BootsStove();
                x.pair(0, 0, 0);
                x.set(0, 0);
                x.pass(hour);
                Check.hut(x, "dry 9 h=" + n);
                check.due("h=" + n + " at HOUR " + hour, x.of(0, 10), hour % 10 == n ? 9 : 0);
            }
        }
        BootsStove late = new BootsStove();
        late.pair(0, 0, 50);
        late.set(0, 0);
        for (int n = 0; n < 166; n++) {
            late.pass(60);
        }
        late.pass(39);
        Check.hut(late, "dry 9 h=9;dry 2 h=0;dry 30 h=1&w=9");
        check.due("9 at HOUR 9999", late.of(0, 10), 9);
        check.due("0 at HOUR 10000", late.on(2, 10), 39);
        check.due("1 at HOUR 10001", late.on(3, 10), 39);
    }

    private static void numbersOfTests() {
        check.sentence("a number (1 or 2 digits)");
        holds("b<0", false);
        holds("b<00", false);
        holds("b<1", true);
        holds("b<01", true);
        holds("b<99", true);
        holds("b>99", false);
        holds("b>0", false);
        holds("b=0", true);
        holds("b=00", true);
        holds("b=10", false);
        holds("b=01", false);
        fault("dry 9 b=", 8);
        fault("dry 9 b=000", 10);
        fault("dry 9 b=-1", 8);
        fault("dry 9 b= 1", 8);
        fault("dry 9 b=100", 10);
    }

    private static void newest() {
        check.sentence("The newest HUT holds (6 at most)");
        BootsStove x = new BootsStove();
        x.pair(0, 0, 0);
        x.set(0, 0);
        for (int n = 0; n < 6; n++) {
            check.due("so many HUTS", x.count(1), n);
            check.due("a FAULT is none", Check.hut(x, "cool 50;dry 90 b=1;dry 90 b=0;!"), -40);
            check.due("the one that held holds", x.of(0, 10), n);
            check.due("its number", Check.hut(x, "dry " + (n + 1) + " b=0"), n);
            check.due("it holds", x.of(0, 10), n + 1);
            check.due("with COOL of its own", x.told(3), 1);
        }
        check.due("a seventh", Check.hut(x, "dry 7 b=0"), FULL);
        check.due("THE TEXT stays", x.count(5), 9);
        check.due("the sixth holds", x.of(0, 10), 6);
        check.due("six", x.count(1), 6);
        check.due("a seventh with a FAULT", x.feed('!') + x.hut(), 10 + FULL);
        check.due("THE TEXT stays", x.count(5), 10);
    }

    private static void without() {
        check.sentence("without one there are no CLAUSES. COOL (1 without), LOG (6 without)");
        BootsStove x = new BootsStove();
        x.pair(0, 0, 0);
        check.due("DRIES is WARM", x.of(0, 10), 10);
        check.due("COOL", x.told(3), 1);
        check.due("LOG", x.told(4), 6);
        check.due("a FAULT", Check.hut(x, "cool 5;log 5;dry 5 b=0;"), -33);
        check.due("DRIES is WARM", x.of(0, 10), 10);
        check.due("COOL", x.told(3), 1);
        check.due("LOG", x.told(4), 6);
        check.due("a HUT with dry alone", Check.hut(x, "dry 5 b=0"), 0);
        check.due("COOL", x.told(3), 1);
        check.due("LOG", x.told(4), 6);
        check.due("with cool alone", Check.hut(x, "cool 0"), 1);
        check.due("COOL", x.told(3), 0);
        check.due("LOG", x.told(4), 6);
        check.due("with log alone", Check.hut(x, "log 0"), 2);
        check.due("COOL", x.told(3), 1);
        check.due("LOG", x.told(4), 0);
        check.due("DRIES is WARM", x.of(0, 10), 10);
    }

    private static void lastOnes() {
        check.sentence("the last one's n");
        BootsStove x = new BootsStove();
        Check.hut(x, "cool 9;log 8;cool 7;log 99;cool 0");
        check.due("COOL", x.told(3), 0);
        check.due("LOG", x.told(4), 99);
        Check.hut(x, "log 99;cool 0;log 0;cool 99");
        check.due("COOL", x.told(3), 99);
        check.due("LOG", x.told(4), 0);
    }
}
