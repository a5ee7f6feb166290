import java.util.Arrays;
import java.util.function.ToLongFunction;

/** "what is asked changes nothing": each call that asks, with what is usual, at its edges, and again. */
public final class AskedTest {
    private static final Check check = new Check();

    public static void main(String[] args) {
        for (Houses house : Houses.values()) {
            thingsAsked(house);
            hoursAsked(house);
            seenAsked(house);
            restAsked(house);
        }
        check.end("AskedTest");
    }

    private static void asked(Houses house, String call, ToLongFunction<BootsStove> made) {
        BootsStove x = house.build();
        long first = made.applyAsLong(x);
        check.due(call + " in a " + house + " house, asked again", made.applyAsLong(x), first);
        boolean isAsItWas = Arrays.equals(Houses.whole(x), Houses.whole(house.build()));
        check.due(call + " in a " + house + " house: nothing changed", isAsItWas ? 1 : 0, 1);
    }

    private static void thingsAsked(Houses house) {
        for (int what = 0; what <= 15; what++) {
            int w = what;
            asked(house, "3: of what " + w, x -> x.of(1, w));
        }
        for (int what = 0; what <= 25; what++) {
            int w = what;
            asked(house, "12: told " + w, x -> x.told(w));
        }
    }

    private static void hoursAsked(Houses house) {
        for (int hours : new int[] {0, 1, 60}) {
            for (int what : new int[] {0, 1, 2, 10, 15}) {
                asked(house, "14: on(" + hours + ", " + what + ")", x -> x.on(hours, what));
            }
        }
        for (int n : new int[] {1, 6, 12}) {
            asked(house, "15: done", x -> x.done(n % 6));
            asked(house, "16: night " + n, x -> x.night(n));
            for (int what : new int[] {0, 1, 10, 14}) {
                asked(house, "17: placed(" + n + ", " + what + ")", x -> x.placed(n, what));
            }
        }
        asked(house, "18: change", BootsStove::change);
        for (int n = 1; n <= 6; n++) {
            int hours = n;
            asked(house, "19: logs(" + n + ", 0)", x -> x.logs(hours, 0));
            asked(house, "19: logs(" + n + ", 1)", x -> x.logs(hours, 1));
        }
    }

    private static void seenAsked(Houses house) {
        for (int b = 0; b < 6; b++) {
            int pair = b;
            for (int what = 0; what < 2; what++) {
                int w = what;
                asked(house, "21: wets(" + b + ", " + w + ")", x -> x.wets(pair, w));
                asked(house, "22: can(" + b + ", " + w + ")", x -> x.can(pair, w));
            }
            asked(house, "23: where " + b, x -> x.where(pair));
        }
        for (int part = 0; part < 2; part++) {
            int p = part;
            for (int n : new int[] {0, 3, 60}) {
                asked(house, "24: odds " + n, x -> x.odds(n, 200, p));
                asked(house, "25: mean " + n, x -> x.mean(n, p));
            }
            asked(house, "27: ends " + p, x -> x.ends(p));
        }
    }

    private static void restAsked(Houses house) {
        asked(house, "29: looked", BootsStove::looked);
        for (int tape = 0; tape < 6; tape++) {
            int t = tape;
            asked(house, "30: judge " + t, x -> x.judge(t, 0));
            asked(house, "39: read " + t, x -> x.read(t, 0));
        }
        for (int n = 0; n <= 6; n++) {
            int k = n;
            asked(house, "34: trace " + n, x -> x.trace(k));
            asked(house, "35: taken for " + n, x -> x.taken(0, k));
            asked(house, "36: count " + n, x -> x.count(k));
        }
    }
}
