import java.math.BigInteger;
import java.util.ArrayList;
import java.util.Arrays;
import java.util.List;
import java.util.regex.Matcher;
import java.util.regex.Pattern;

/**
 * The document written down a second time, as slowly and simply as can be, to hold BootsStove against:
 * THE TEXT is matched by a regular expression and evaluated as text, KINDS are Java classes whose acts use
 * Java's own super, and all that is asked is done on a full copy of how all is.
 */
final class Reference {
    static final int NONE = -1, BAD = -2, STATE = -3, FULL = -4;
    static final long NO = Long.MIN_VALUE;

    // ---- how all is

    static final class All {
        List<Pair> pairs = new ArrayList<>();
        int heat = 10, wood = 3, hour = 0;
        List<int[]> seen = new ArrayList<>(), rota = new ArrayList<>(), book = new ArrayList<>();
        String hut = "";

        All copy() {
            All c = new All();
            for (Pair p : pairs) {
                c.pairs.add(p.copy());
            }
            c.heat = heat;
            c.wood = wood;
            c.hour = hour;
            c.seen.addAll(seen);
            c.rota.addAll(rota);
            c.book.addAll(book);
            c.hut = hut;
            return c;
        }

        int last(String word, int without) {
            int n = without;
            for (String clause : hut.split(";")) {
                if (clause.startsWith(word + " ")) {
                    n = Integer.parseInt(clause.substring(word.length() + 1));
                }
            }
            return n;
        }

        int warm(int place) {
            return Math.max(heat - 3 * place, 0);
        }

        int sum(Pair p, int place) {
            int sum = warm(place);
            for (String clause : hut.split(";")) {
                String[] parts = clause.split(" ");
                if (parts[0].equals("dry") && holds(parts[2], p, place)) {
                    sum += Integer.parseInt(parts[1]);
                }
                if (parts[0].equals("damp") && holds(parts[2], p, place)) {
                    sum -= Integer.parseInt(parts[1]);
                }
            }
            return sum;
        }

        boolean holds(String e, Pair p, int place) {
            int cut = outer(e, '|');
            if (cut >= 0) {
                return holds(e.substring(0, cut), p, place) | holds(e.substring(cut + 1), p, place);
            }
            cut = outer(e, '&');
            if (cut >= 0) {
                return holds(e.substring(0, cut), p, place) & holds(e.substring(cut + 1), p, place);
            }
            if (e.startsWith("!")) {
                return !holds(e.substring(1), p, place);
            }
            if (e.startsWith("(")) {
                return holds(e.substring(1, e.length() - 1), p, place);
            }
            int value = List.of(p.number, place, p.kind(), p.v, p.wet / 10, hour % 10).get("bpkvwh".indexOf(e.charAt(0)));
            int number = Integer.parseInt(e.substring(2));
            return e.charAt(1) == '<' ? value < number : e.charAt(1) == '=' ? value == number : value > number;
        }

        static int outer(String e, char sign) {
            int open = 0;
            for (int i = 0; i < e.length(); i++) {
                char c = e.charAt(i);
                open += c == '(' ? 1 : c == ')' ? -1 : 0;
                if (open == 0 && c == sign) {
                    return i;
                }
            }
            return -1;
        }

        void hours(int n) {
            for (int k = 0; k < n; k++) {
                int[] dries = new int[6];
                for (Pair p : pairs) {
                    dries[p.number] = p.dries(this, p.place);
                }
                for (Pair p : pairs) {
                    if (!p.taken) {
                        p.wet = Math.max(0, p.wet - dries[p.number]);
                        p.cracks += p.spoils(this) ? 1 : 0;
                    }
                }
                heat = Math.max(0, heat - last("cool", 1));
                hour++;
            }
        }

        void stoke() {
            wood--;
            heat = Math.min(30, heat + last("log", 6));
        }

        All after(int n) {
            All c = copy();
            c.hours(n);
            return c;
        }

        int wetHere() {
            return pairs.stream().filter(p -> !p.taken).mapToInt(p -> p.wet).sum();
        }

        int cracks() {
            return pairs.stream().mapToInt(p -> p.cracks).sum();
        }

        int dryHere() {
            return (int) pairs.stream().filter(p -> !p.taken && p.wet == 0).count();
        }

        int who(int place) {
            return pairs.stream().filter(p -> p.place == place).mapToInt(p -> p.number).findFirst().orElse(-5);
        }

        void swap(int pair, int place) {
            int who = who(place);
            if (who >= 0) {
                pairs.get(who).place = pairs.get(pair).place;
            }
            pairs.get(pair).place = place;
        }

        boolean seenIsSo(int onlyOf) {
            for (int[] s : seen) {
                if ((onlyOf < 0 || s[0] == onlyOf) && after(s[2]).pairs.get(s[0]).wet != s[1]) {
                    return false;
                }
            }
            return true;
        }
    }

    // ---- KINDS

    static class Pair {
        int number, v, wet, place, cracks;
        boolean taken;
        int[] row = new int[4];
        List<Integer> trace = new ArrayList<>();

        int kind() { return 0; }
        Pair fresh() { return new Pair(); }
        int raw(All a, int at) { return a.sum(this, at); }
        final int dries(All a, int at) { return Math.max(0, raw(a, at)); }
        boolean spoils(All a) { return false; }
        int drips(int x) { trace.add(10); return x + number; }
        int steams(int x) { trace.add(11); return drips(x) - v; }
        int tells(int x) { trace.add(12); return steams(x) * 2; }

        final Pair copy() {
            Pair p = fresh();
            p.number = number;
            p.v = v;
            p.wet = wet;
            p.place = place;
            p.cracks = cracks;
            p.taken = taken;
            p.row = row.clone();
            return p;
        }
    }

    static class Leather extends Pair {
        @Override int kind() { return 1; }
        @Override Pair fresh() { return new Leather(); }
        @Override int raw(All a, int at) { return a.warm(at) > 8 ? a.sum(this, at) / 2 : a.sum(this, at); }
        @Override boolean spoils(All a) { return a.warm(place) > 8; }
        @Override int steams(int x) { trace.add(20); return super.steams(x) ^ 6; }
    }

    static class Felt extends Pair {
        @Override int kind() { return 2; }
        @Override Pair fresh() { return new Felt(); }
        @Override int raw(All a, int at) { return a.sum(this, at) / 2; }
        @Override int drips(int x) { trace.add(30); return super.drips(x * 3); }
    }

    static class Stuffed extends Pair {
        @Override int kind() { return 3; }
        @Override Pair fresh() { return new Stuffed(); }
        @Override int raw(All a, int at) { return a.sum(this, at) + (wet < 50 ? 0 : v); }
        @Override int tells(int x) { trace.add(40); return super.tells(x) + steams(1); }
    }

    static final class Guides extends Leather {
        @Override int kind() { return 4; }
        @Override Pair fresh() { return new Guides(); }
        @Override int raw(All a, int at) { return super.raw(a, at) + (a.hour % 4 == 0 ? 2 : 0); }
        @Override boolean spoils(All a) { return a.warm(place) > 8 + v; }
        @Override int drips(int x) { trace.add(50); return -super.drips(x); }
        @Override int steams(int x) { trace.add(51); return super.steams(x + 1); }
    }

    static final class Socks extends Felt {
        @Override int kind() { return 5; }
        @Override Pair fresh() { return new Socks(); }
        @Override int raw(All a, int at) { return wet < v ? 0 : super.raw(a, at); }
        @Override int tells(int x) { trace.add(60); return super.tells(x - number); }
    }

    static final class Told extends Stuffed {
        @Override int kind() { return 6; }
        @Override Pair fresh() { return new Told(); }
        @Override int raw(All a, int at) { return super.raw(a, at) + row[a.hour % 4]; }
        @Override int steams(int x) { trace.add(70); return super.steams(x) + super.drips(2); }
        @Override int drips(int x) { trace.add(71); return super.drips(x) ^ v; }
    }

    // ---- the calls

    private static final String TEST = "[bpkvwh][<=>][0-9]{1,2}";
    private static final Pattern HUT = Pattern.compile(clause() + "(?:;" + clause() + "){0,9}");

    private static String part(int nested) {
        return nested == 4 ? TEST : "(?:" + TEST + "|!" + part(nested + 1) + "|\\(" + any(nested + 1) + "\\))";
    }

    private static String all(int nested) {
        return part(nested) + "(?:&" + part(nested) + ")*";
    }

    private static String any(int nested) {
        return all(nested) + "(?:\\|" + all(nested) + ")*";
    }

    private static String clause() {
        return "(?:(?:dry|damp) [0-9]{1,2} " + any(0) + "|(?:cool|log) [0-9]{1,2})";
    }

    /** The FAULT; -1: it is a HUT. */
    static int fault(String text) {
        if (HUT.matcher(text).matches()) {
            return -1;
        }
        int most = 0;
        for (int n = 0; n <= text.length(); n++) {
            Matcher m = HUT.matcher(text.substring(0, n));
            if (m.matches() || m.hitEnd()) {
                most = n;
            } else {
                break;
            }
        }
        return most;
    }

    All now = new All();
    All image;
    StringBuilder text = new StringBuilder();
    int huts;
    List<Integer> trace = new ArrayList<>();
    Object[] tapes = new Object[6];

    private boolean no(int pair) { return pair < 0 || pair >= now.pairs.size(); }
    private static boolean in(int n, int least, int most) { return least <= n && n <= most; }
    private Pair p(int pair) { return now.pairs.get(pair); }

    int pair(int kind, int v, int wet) {
        if (!in(kind, 0, 6)) return NONE;
        if (!in(v, 0, 9) || !in(wet, 0, 99)) return BAD;
        if (now.pairs.size() == 6) return FULL;
        Pair p = List.of(new Pair(), new Leather(), new Felt(), new Stuffed(), new Guides(), new Socks(), new Told()).get(kind);
        p.number = now.pairs.size();
        p.v = v;
        p.wet = wet;
        while (now.who(p.place) >= 0) p.place++;
        now.pairs.add(p);
        return p.number;
    }

    int of(int pair, int what) {
        if (no(pair)) return NONE;
        Pair p = p(pair);
        if (in(what, 10, 15)) return p.dries(now, what - 10);
        return switch (what) {
            case 0 -> p.kind();
            case 1 -> p.v;
            case 2 -> p.wet;
            case 3 -> p.place;
            case 4 -> p.taken ? 1 : 0;
            case 5 -> p.cracks;
            case 6 -> p.spoils(now) ? 1 : 0;
            default -> NONE;
        };
    }

    int wet(int pair, int n) {
        if (no(pair)) return NONE;
        if (!in(n, 0, 99)) return BAD;
        int was = p(pair).wet;
        p(pair).wet = n;
        return was;
    }

    int put(int pair, int place) {
        if (no(pair) || !in(place, 0, 5)) return NONE;
        int was = p(pair).place;
        now.swap(pair, place);
        return was;
    }

    int take(int pair, boolean is) {
        if (no(pair)) return NONE;
        boolean was = p(pair).taken;
        p(pair).taken = is;
        return was ? 1 : 0;
    }

    int stoke() {
        if (now.wood == 0) return STATE;
        now.stoke();
        return now.heat;
    }

    int set(int what, int n) {
        int was;
        if (what == 0) {
            if (!in(n, 0, 30)) return BAD;
            was = now.heat;
            now.heat = n;
        } else if (what == 1) {
            if (!in(n, 0, 9)) return BAD;
            was = now.wood;
            now.wood = n;
        } else {
            return NONE;
        }
        return was;
    }

    int row(int pair, int part, int n) {
        if (no(pair) || !in(part, 0, 3)) return NONE;
        if (!in(n, 0, 9)) return BAD;
        if (p(pair).kind() != 6) return STATE;
        int was = p(pair).row[part];
        p(pair).row[part] = n;
        return was;
    }

    int feed(int sign) {
        if (!in(sign, 0, 127)) return BAD;
        if (text.length() == 100) return FULL;
        text.append((char) sign);
        return text.length();
    }

    int hut() {
        if (huts == 6) return FULL;
        String read = text.toString();
        text.setLength(0);
        int fault = fault(read);
        if (fault >= 0) return -10 - fault;
        now.hut = read;
        return huts++;
    }

    int told(int what) {
        if (in(what, 10, 15)) return now.warm(what - 10);
        if (in(what, 20, 25)) return now.who(what - 20);
        return switch (what) {
            case 0 -> now.hour;
            case 1 -> now.heat;
            case 2 -> now.wood;
            case 3 -> now.last("cool", 1);
            case 4 -> now.last("log", 6);
            case 5 -> now.wetHere();
            case 6 -> now.cracks();
            case 7 -> now.pairs.stream().mapToInt(p -> p.wet == 0 ? 1 << p.number : 0).sum();
            default -> NONE;
        };
    }

    int pass(int n) {
        if (!in(n, 0, 60)) return BAD;
        if (now.hour + n > 9999) return STATE;
        now.hours(n);
        return now.hour;
    }

    int on(int n, int what) {
        if (!in(what, 0, 2) && !(what >= 10 && !no(what - 10))) return NONE;
        if (!in(n, 0, 60)) return BAD;
        All a = now.after(n);
        return what == 0 ? a.wetHere() : what == 1 ? a.heat : what == 2 ? a.cracks() : a.pairs.get(what - 10).wet;
    }

    int done(int pair) {
        if (no(pair)) return NONE;
        for (int n = 0; n <= 60; n++) {
            if (now.after(n).pairs.get(pair).wet == 0) return n;
        }
        return -5;
    }

    int night(int n) {
        return in(n, 0, 12) ? now.after(n).dryHere() : BAD;
    }

    int placed(int n, int what) {
        if (!in(what, 0, 1) && !(what >= 10 && !no(what - 10))) return NONE;
        if (!in(n, 1, 12)) return BAD;
        int[] best = null;
        int many = now.pairs.size();
        for (int code = 0; code < Math.pow(6, many); code++) {
            int[] way = new int[2 + many];
            int rest = code;
            for (int b = many - 1; b >= 0; b--) {
                way[2 + b] = rest % 6;
                rest /= 6;
            }
            if (Arrays.stream(way, 2, 2 + many).distinct().count() < many) continue;
            All a = now.copy();
            for (Pair p : a.pairs) p.place = way[2 + p.number];
            a.hours(n);
            way[0] = a.dryHere();
            way[1] = a.wetHere();
            if (best == null || way[0] > best[0] || way[0] == best[0] && way[1] < best[1]) best = way;
        }
        return best[what < 2 ? what : what - 8];
    }

    int change() {
        int least = now.after(6).wetHere();
        int answer = -5;
        for (int i = 0; i < now.pairs.size(); i++) {
            for (int j = i + 1; j < now.pairs.size(); j++) {
                All a = now.copy();
                a.swap(i, p(j).place);
                a.hours(6);
                if (a.wetHere() < least) {
                    least = a.wetHere();
                    answer = 10 * i + j;
                }
            }
        }
        return answer;
    }

    int logs(int n, int what) {
        if (!in(what, 0, 1)) return NONE;
        if (!in(n, 1, 6)) return BAD;
        List<int[]> ways = new ArrayList<>();
        for (int bits = 0; bits < 1 << n; bits++) {
            if (Integer.bitCount(bits) > now.wood) continue;
            All a = now.copy();
            for (int k = 0; k < n; k++) {
                if ((bits & 1 << k) != 0) a.stoke();
                a.hours(1);
            }
            ways.add(new int[] {a.wetHere(), Integer.bitCount(bits), bits});
        }
        ways.sort(Arrays::compare);
        return ways.get(0)[what == 0 ? 2 : 0];
    }

    int see(int pair, int wet, int n) {
        if (pair == -1) {
            now.seen.clear();
            return 0;
        }
        if (no(pair)) return NONE;
        if (!in(wet, 0, 99) || !in(n, 0, 20)) return BAD;
        if (now.seen.size() == 5) return FULL;
        now.seen.add(new int[] {pair, wet, n});
        return now.seen.size();
    }

    int wets(int pair, int what) {
        return many(pair, what, 99, true);
    }

    int can(int pair, int what) {
        return many(pair, what, 9, false);
    }

    private int many(int pair, int what, int most, boolean isWet) {
        if (no(pair) || !in(what, 0, 1)) return NONE;
        List<Integer> all = new ArrayList<>();
        for (int n = 0; n <= most; n++) {
            All a = now.copy();
            if (isWet) a.pairs.get(pair).wet = n;
            else a.pairs.get(pair).v = n;
            if (a.seenIsSo(pair)) all.add(n);
        }
        return what == 0 ? all.size() : all.isEmpty() ? -5 : all.get(0);
    }

    int where(int pair) {
        if (no(pair)) return NONE;
        int bits = 0;
        for (int place = 0; place < 6; place++) {
            All a = now.copy();
            a.swap(pair, place);
            bits += a.seenIsSo(-1) ? 1 << place : 0;
        }
        return bits;
    }

    private static long lowest(long above, long below, int part) {
        BigInteger common = BigInteger.valueOf(above).gcd(BigInteger.valueOf(below));
        return (part == 0 ? above : below) / common.longValue();
    }

    long odds(int n, int q, int part) {
        if (!in(n, 0, 60) || !in(q, 0, 999) || !in(part, 0, 1) || now.pairs.isEmpty()) return NO;
        int likely = 0;
        for (Pair p : now.pairs) {
            All a = now.copy();
            a.pairs.get(p.number).taken = true;
            a.hours(n);
            likely += a.wetHere() <= q ? 1 : 0;
        }
        return lowest(likely, now.pairs.size(), part);
    }

    long mean(int n, int part) {
        if (!in(n, 0, 60) || !in(part, 0, 1) || now.pairs.isEmpty()) return NO;
        return lowest(now.after(n).pairs.stream().mapToInt(p -> p.wet).sum(), now.pairs.size(), part);
    }

    int rota(int what, int n) {
        if (what == -1) {
            now.rota.clear();
            return 0;
        }
        if (!in(what, 0, 3) || what > 1 && no(n)) return NONE;
        if (now.rota.size() == 10) return FULL;
        now.rota.add(new int[] {what, n});
        return now.rota.size();
    }

    int ends(int what) {
        if (!in(what, 0, 1)) return NONE;
        All a = now.copy();
        for (int[] r : now.rota) {
            if (r[0] == 0) a.hours(1);
            if (r[0] == 1 && a.wood > 0) a.stoke();
            if (r[0] == 2) a.pairs.get(r[1]).taken = true;
            if (r[0] == 3) a.pairs.get(r[1]).taken = false;
        }
        return what == 0 ? a.wetHere() : a.cracks();
    }

    int book(int pair, int wet) {
        if (pair == -1) {
            now.book.clear();
            return 0;
        }
        if (no(pair)) return NONE;
        if (!in(wet, 0, 99)) return BAD;
        if (now.book.size() == 8) return FULL;
        now.book.add(new int[] {pair, wet});
        return now.book.size();
    }

    int looked() {
        for (int i = 0; i < now.book.size(); i++) {
            if (p(now.book.get(i)[0]).wet != now.book.get(i)[1]) return i;
        }
        return -5;
    }

    int judge(int tape, int i) {
        if (!in(tape, 0, 5)) return NONE;
        if (tapes[tape] != null && !(tapes[tape] instanceof byte[])) return -12;
        if (now.pairs.isEmpty()) return -5;
        if (tapes[tape] == null || i < 0) return 100;
        byte[] row = (byte[]) tapes[tape];
        for (Pair p : now.pairs) {
            if ((long) i + p.number >= row.length) return 100 + p.number;
            if (row[i + p.number] != p.wet) return p.number;
        }
        return -5;
    }

    int image() {
        image = now.copy();
        return now.pairs.size();
    }

    int undo() {
        if (image == null) return STATE;
        now = image.copy();
        return now.pairs.size();
    }

    int act(int pair, int act, int x) {
        trace = new ArrayList<>();
        if (no(pair) || !in(act, 0, 2)) return 0;
        Pair p = p(pair).copy();
        trace = p.trace;
        return act == 0 ? p.drips(x) : act == 1 ? p.steams(x) : p.tells(x);
    }

    int trace(int i) {
        return in(i, 0, Math.min(trace.size(), 20) - 1) ? trace.get(i) : NONE;
    }

    int taken(int pair, int k) {
        if (!in(k, 0, 6)) return BAD;
        if (no(pair)) return -11;
        Class<?> as = List.of(Pair.class, Leather.class, Felt.class, Stuffed.class, Guides.class, Socks.class, Told.class).get(k);
        return as.isInstance(p(pair)) ? p(pair).kind() : -12;
    }

    int count(int what) {
        int[] all = {now.pairs.size(), huts, now.seen.size(), now.rota.size(), now.book.size(), text.length(), trace.size()};
        return in(what, 0, 6) ? all[what] : BAD;
    }

    int tape(int tape, int sort, int n) {
        if (!in(tape, 0, 5)) return NONE;
        if (!in(sort, -1, 4) || sort != -1 && n > 60) return BAD;
        if (sort != -1 && n < 0) return -14;
        tapes[tape] = switch (sort) {
            case 0 -> new byte[n];
            case 1 -> new short[n];
            case 2 -> new int[n];
            case 3 -> new long[n];
            case 4 -> new boolean[n];
            default -> null;
        };
        return 1;
    }

    int item(int tape, int i, long v) {
        if (!in(tape, 0, 5)) return NONE;
        Object row = tapes[tape];
        if (row == null) return -11;
        if (!in(i, 0, java.lang.reflect.Array.getLength(row) - 1)) return -13;
        if (row instanceof byte[] r) r[i] = (byte) v;
        if (row instanceof short[] r) r[i] = (short) v;
        if (row instanceof int[] r) r[i] = (int) v;
        if (row instanceof long[] r) r[i] = v;
        if (row instanceof boolean[] r) r[i] = v != 0;
        return 1;
    }

    long read(int tape, int i) {
        if (!in(tape, 0, 5) || tapes[tape] == null) return NO;
        if (!in(i, 0, java.lang.reflect.Array.getLength(tapes[tape]) - 1)) return NO;
        Object item = java.lang.reflect.Array.get(tapes[tape], i);
        return item instanceof Boolean b ? (b ? 1 : 0) : ((Number) item).longValue();
    }

    int shift(int tape, int i, int other, int j, int n) {
        if (!in(tape, 0, 5) || !in(other, 0, 5)) return NONE;
        if (tapes[tape] == null || tapes[other] == null) return -11;
        try {
            System.arraycopy(tapes[tape], i, tapes[other], j, n);
        } catch (ArrayStoreException e) {
            return -12;
        } catch (IndexOutOfBoundsException e) {
            return -13;
        }
        return n;
    }
}
