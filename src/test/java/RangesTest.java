import java.util.Arrays;

/**
 * The ends of the range of each argument of each method, on all 25 levels: the last number inside and the first one
 * outside, at both ends, and the least and greatest int, for one argument and for several at once. Checked are the
 * answer and what told() counts after it.
 */
public final class RangesTest {
    private static final Due DUE = new Due("RangesTest");

    private static PairSymbols x;
    private static Model model;
    private static int calls;
    private static final int[] counts = new int[3];

    public static void main(String[] args) {
        for (int level = 1; level <= 25; level++) {
            for (String name : Ranges.NAMES) {
                renew(level);
                everyEnd(name, level);
            }
        }
        DUE.end();
    }

    private static void renew(int level) {
        x = new PairSymbols();
        model = new Model();
        x.level(level);
        model.call("level", level);
        Arrays.fill(counts, 0);
        calls = 1;
    }

    /** Wrap-around at the ends of int gives numbers far outside, or the end once more. */
    private static int[] ends(int[] range) {
        return new int[] {Integer.MIN_VALUE, range[0] - 1, range[0], range[1], range[1] + 1, Integer.MAX_VALUE};
    }

    private static void everyEnd(String name, int level) {
        int[][] ranges = Ranges.of(name, level);
        int[] a = new int[ranges.length];
        int combinations = 1;
        for (int k = 0; k < ranges.length; k++) {
            combinations *= 6;
        }
        for (int code = 0; code < combinations; code++) {
            int rest = code;
            for (int k = 0; k < a.length; k++) {
                a[k] = ends(ranges[k])[rest % 6];
                rest /= 6;
            }
            if (calls > 500) {
                renew(level);
            }
            one(name, level, a);
        }
    }

    private static void one(String name, int level, int[] a) {
        String call = "level " + level + ": " + name + Arrays.toString(a);
        long got = Calls.call(x, name, a);
        long modelled = model.call(name, a);
        calls++;
        boolean inside = Ranges.inside(name, level, a);
        if (!inside) {
            counts[0]++;
            DUE.is(call, got, Ranges.bad(name));
        } else if (Ranges.takesOperator(name) && !Ranges.coprime(a[0], level)) {
            counts[1]++;
            DUE.is(call, got, Ranges.no(name));
        } else {
            DUE.is(call, got, modelled);
        }
        for (int what = 0; what < 3; what++) {
            DUE.is(call + ", then told(" + what + ")", x.told(what), counts[what]);
            calls++;
        }
        if (name.equals("level") && inside) {
            x.level(level);
            model.call("level", level);
            calls++;
        }
    }
}
