import java.lang.reflect.Method;
import java.util.ArrayList;
import java.util.Arrays;
import java.util.Comparator;
import java.util.List;
import java.util.Random;

/** Runs of 512 calls by a fixed seed, each answer held against the Reference's. */
public final class LongRunsTest {
    private static final int RUNS = 150, CALLS = 512;
    private static final String[] TESTS = {"b=", "b<", "p=", "p>", "k=", "k<", "v>", "v=", "w<", "w>", "w=", "h=", "h>", "h<"};

    private final Random random;
    private final Check check;
    private final BootsStove stove = new BootsStove();
    private final Reference reference = new Reference();
    private final List<String> calls = new ArrayList<>();

    private LongRunsTest(long seed, Check check) {
        random = new Random(seed);
        this.check = check;
    }

    public static void main(String[] args) throws Exception {
        Check check = new Check();
        int runs = args.length > 1 ? Integer.parseInt(args[1]) : RUNS;
        for (int seed = 0; seed < runs; seed++) {
            new LongRunsTest(seed, check).run();
        }
        check.end("LongRunsTest");
    }

    private void run() throws Exception {
        Method[] methods = BootsStove.class.getDeclaredMethods();
        methods = Arrays.stream(methods).filter(m -> java.lang.reflect.Modifier.isPublic(m.getModifiers()))
            .sorted(Comparator.comparing(Method::getName)).toArray(Method[]::new);
        for (int i = random.nextInt(7); i > 0; i--) {
            both(method(methods, "pair"), random.nextInt(7), random.nextInt(10), random.nextInt(100));
        }
        while (calls.size() < CALLS) {
            int kind = random.nextInt(30);
            if (kind == 0) {
                for (char sign : text().toCharArray()) {
                    both(method(methods, "feed"), (int) sign);
                }
                both(method(methods, "hut"));
            } else if (kind == 1 && reference.now.pairs.size() > 0) {
                tellWhatIs(methods);
            } else if (kind == 2) {
                fillAndShift(methods);
            } else if (kind == 3 && reference.now.pairs.size() > 0) {
                warmAndWet(methods);
            } else {
                Method m = methods[random.nextInt(methods.length)];
                // these two would fill, or empty, THE TEXT at random
                if (!m.getName().equals("hut") && !m.getName().equals("feed") || random.nextInt(8) == 0) {
                    both(m, arguments(m));
                }
            }
        }
    }

    /** Tells by hand what is so: at random it hardly ever would be. */
    private void tellWhatIs(Method[] methods) throws Exception {
        int pair = random.nextInt(reference.now.pairs.size());
        int n = random.nextInt(random.nextBoolean() ? 4 : 21);
        switch (random.nextInt(3)) {
            case 0 -> {
                both(method(methods, "see"), pair, reference.on(n, 10 + pair), n);
                both(method(methods, random.nextBoolean() ? "wets" : "can"), pair, random.nextInt(2));
                both(method(methods, "where"), random.nextInt(reference.now.pairs.size()));
            }
            case 1 -> {
                both(method(methods, "book"), pair, reference.of(pair, 2));
                both(method(methods, "looked"));
            }
            default -> {
                int from = random.nextInt(4);
                both(method(methods, "tape"), 0, 0, from + reference.now.pairs.size() - random.nextInt(2));
                for (int b = 0; b < reference.now.pairs.size(); b++) {
                    both(method(methods, "item"), 0, from + b, (long) reference.of(b, 2));
                }
                both(method(methods, "judge"), 0, from);
            }
        }
    }

    private void fillAndShift(Method[] methods) throws Exception {
        int sort = random.nextInt(5);
        for (int tape = 0; tape < 2; tape++) {
            both(method(methods, "tape"), tape, random.nextInt(8) == 0 ? random.nextInt(5) : sort, random.nextInt(9));
            for (int i = 0; i < 4; i++) {
                both(method(methods, "item"), tape, i, random.nextLong() >> random.nextInt(64));
            }
        }
        int other = random.nextInt(2);
        both(method(methods, "shift"), 0, random.nextInt(4), other, random.nextInt(4), random.nextInt(4));
        for (int i = 0; i < 8; i++) {
            both(method(methods, "read"), other, i);
        }
    }

    /** Left alone, all runs end DRY by a cold stove. */
    private void warmAndWet(Method[] methods) throws Exception {
        both(method(methods, "set"), 0, 5 + random.nextInt(26));
        both(method(methods, "set"), 1, random.nextInt(7));
        for (int b = 0; b < reference.now.pairs.size(); b++) {
            both(method(methods, "wet"), b, random.nextInt(100));
        }
        both(method(methods, "placed"), 1 + random.nextInt(12), random.nextInt(2));
        both(method(methods, "change"));
        both(method(methods, "logs"), 1 + random.nextInt(6), random.nextInt(2));
        int pair = random.nextInt(reference.now.pairs.size());
        both(method(methods, "act"), pair, random.nextInt(3), random.nextInt());
        for (int i = 0; i <= reference.trace.size(); i++) {
            both(method(methods, "trace"), i);
        }
    }

    private static Method method(Method[] all, String name) {
        return Arrays.stream(all).filter(m -> m.getName().equals(name)).findFirst().orElseThrow();
    }

    private void both(Method m, Object... arguments) throws Exception {
        // what a 513th call answers is free
        if (calls.size() >= CALLS) {
            return;
        }
        Method due = Reference.class.getDeclaredMethod(m.getName(), m.getParameterTypes());
        calls.add(m.getName() + Arrays.toString(arguments));
        long want = ((Number) due.invoke(reference, arguments)).longValue();
        long got = ((Number) m.invoke(stove, arguments)).longValue();
        check.due(got == want ? "" : "behind " + calls + " the last", got, want);
    }

    /** Arguments that are mostly in the ranges of the document, and at times at their edges or beyond. */
    private Object[] arguments(Method m) {
        Class<?>[] types = m.getParameterTypes();
        Object[] all = new Object[types.length];
        for (int i = 0; i < all.length; i++) {
            if (types[i] == boolean.class) {
                all[i] = random.nextBoolean();
            } else if (types[i] == long.class) {
                all[i] = random.nextLong() >> random.nextInt(64);
            } else {
                all[i] = random.nextInt(12) == 0 ? odd() : usual(m.getName(), i);
            }
        }
        return all;
    }

    private int odd() {
        int[] odds = {-1, -2, 0, 6, 7, 10, 12, 13, 15, 16, 20, 21, 25, 26, 30, 31, 60, 61, 99, 100, 127, 128, 999, 1000,
            Integer.MAX_VALUE, Integer.MIN_VALUE, Integer.MAX_VALUE - 3};
        return odds[random.nextInt(odds.length)];
    }

    private int usual(String name, int i) {
        int[][] mosts = switch (name) {
            case "pair" -> new int[][] {{0, 6}, {0, 9}, {0, 99}};
            case "of" -> new int[][] {{0, 5}, {0, 16}};
            case "wet", "book" -> new int[][] {{0, 5}, {0, 99}};
            case "put" -> new int[][] {{0, 5}, {0, 5}};
            case "take" -> new int[][] {{0, 5}};
            case "set" -> new int[][] {{0, 1}, {0, 30}};
            case "row" -> new int[][] {{0, 5}, {0, 3}, {0, 9}};
            case "feed" -> new int[][] {{0, 127}};
            case "told" -> new int[][] {{0, 26}};
            case "pass" -> new int[][] {{0, random.nextInt(5) == 0 ? 60 : 2}};
            case "on" -> new int[][] {{0, random.nextInt(3) == 0 ? 60 : 6}, {random.nextInt(3) == 0 ? 0 : 10, random.nextBoolean() ? 2 : 15}};
            case "night" -> new int[][] {{0, 12}};
            case "placed" -> new int[][] {{1, 12}, {random.nextInt(3) == 0 ? 0 : 10, random.nextBoolean() ? 1 : 15}};
            case "logs" -> new int[][] {{1, 6}, {0, 1}};
            case "see" -> new int[][] {{random.nextInt(3) == 0 ? -1 : 0, 5}, {0, random.nextBoolean() ? 0 : 40}, {0, 5}};
            case "wets", "can", "looked" -> new int[][] {{0, 5}, {0, 1}};
            case "odds" -> new int[][] {{0, 20}, {0, 300}, {0, 1}};
            case "mean" -> new int[][] {{0, 20}, {0, 1}};
            case "rota" -> new int[][] {{random.nextInt(6) == 0 ? -1 : 0, 3}, {0, 5}};
            case "ends" -> new int[][] {{0, 1}};
            case "judge" -> new int[][] {{0, 5}, {0, 5}};
            case "act" -> new int[][] {{0, 5}, {0, 2}, {-1000, 1000}};
            case "trace" -> new int[][] {{0, 20}};
            case "taken" -> new int[][] {{0, 5}, {0, 6}};
            case "count" -> new int[][] {{0, 6}};
            case "tape" -> new int[][] {{0, 5}, {-1, 4}, {0, 20}};
            case "item", "read" -> new int[][] {{0, 5}, {0, 19}};
            case "shift" -> new int[][] {{0, 5}, {0, 9}, {0, 5}, {0, 9}, {0, 9}};
            default -> new int[][] {{0, 5}, {0, 5}, {0, 5}, {0, 5}, {0, 5}};
        };
        int[] most = i < mosts.length ? mosts[i] : mosts[0];
        return most[0] + random.nextInt(Math.max(1, most[1] - most[0] + 1));
    }

    /** A HUT, or at times one with a byte changed, left out or cut off. */
    private String text() {
        StringBuilder text = new StringBuilder();
        int clauses = 1 + random.nextInt(random.nextInt(4) == 0 ? 12 : 4);
        for (int c = 0; c < clauses && text.length() < 90; c++) {
            text.append(c == 0 ? "" : ";");
            switch (random.nextInt(5)) {
                case 0 -> text.append("cool ").append(random.nextInt(random.nextBoolean() ? 3 : 100));
                case 1 -> text.append("log ").append(random.nextInt(random.nextBoolean() ? 10 : 100));
                default -> text.append(random.nextBoolean() ? "dry " : "damp ")
                    .append(random.nextInt(random.nextInt(3) == 0 ? 100 : 9)).append(' ').append(any(0));
            }
        }
        if (random.nextInt(4) == 0 && text.length() > 0) {
            int at = random.nextInt(text.length());
            switch (random.nextInt(4)) {
                case 0 -> text.deleteCharAt(at);
                case 1 -> text.setLength(at);
                case 2 -> text.insert(at, "dampcologry 0123456789;()!&|<=>bpkvwh".charAt(random.nextInt(37)));
                default -> text.setCharAt(at, "dampcologry 0123456789;()!&|<=>bpkvwh".charAt(random.nextInt(37)));
            }
        }
        return text.toString();
    }

    private String any(int nested) {
        return part(nested) + switch (random.nextInt(5)) {
            case 0 -> "&" + any(nested);
            case 1 -> "|" + any(nested);
            default -> "";
        };
    }

    private String part(int nested) {
        // at times one more than may be
        int most = random.nextInt(60) == 0 ? 5 : 4;
        int form = nested >= most ? 9 : random.nextInt(8);
        if (form == 0) {
            return "!" + part(nested + 1);
        }
        if (form == 1) {
            return "(" + any(nested + 1) + ")";
        }
        return TESTS[random.nextInt(TESTS.length)] + random.nextInt(random.nextInt(8) == 0 ? 100 : 8);
    }
}
