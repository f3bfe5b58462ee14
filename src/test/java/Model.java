import java.math.BigInteger;
import java.util.ArrayDeque;
import java.util.ArrayList;
import java.util.Deque;
import java.util.List;
import java.util.regex.Matcher;
import java.util.regex.Pattern;

/** What the document says, call by call, as plainly as can be; the tests compare the program with it. */
final class Model {
    private static final long BAD = -2, NO = -3, FULL = -4;
    private static final BigInteger RANGE = BigInteger.valueOf(1000000000000L);
    private static final String COMMAND =
            "n *(\\d{1,3})|\\+ *(-?\\d{1,3}) +(\\d{1,3})|t *(\\d{1,3})|w *(\\d{1,3}) +(\\d{1,3})|z";
    private static final Pattern ONE = Pattern.compile(" *(" + COMMAND + ") *;");
    private static final Pattern ALL = Pattern.compile("(?: *(?:" + COMMAND + ") *;)+ *");

    /** An error in the middle of a call. */
    private static final class Refused extends RuntimeException {
        private static final long serialVersionUID = 1;
        final transient long code;

        Refused(long code) {
            super(null, null, false, false);
            this.code = code;
        }
    }

    private static final class Kept {
        final ModelSpace space;
        final Q[] sum;

        Kept(ModelSpace space, Q[] sum) {
            this.space = space;
            this.sum = sum;
        }
    }

    private ModelSpace space = ModelSpace.of(11);
    private Q[] sum = ModelSpace.zeros(space.free.length);
    private String text = "";
    private final Deque<Kept> kept = new ArrayDeque<>();
    private final int[] errors = new int[3];

    /** Answers a call of the document's face by its name. */
    long call(String name, int... a) {
        try {
            return answer(name, a);
        } catch (Refused refused) {
            errors[(int) (-2 - refused.code)]++;
            if (name.equals("trace")) {
                return refused.code == BAD ? -9999 : -9998;
            }
            if (name.equals("polynomial") || name.equals("sum") || name.equals("boundary")) {
                return refused.code == BAD ? Long.MIN_VALUE : Long.MIN_VALUE + 1;
            }
            return refused.code;
        }
    }

    private long answer(String name, int[] a) {
        switch (name) {
            case "level": case "adds": case "applies": case "walks": return change(name, a);
            case "symbols": return space.pairs.size();
            case "symbol": return symbol(a[0], a[1]);
            case "pair":
                need(Math.abs((long) a[0]) <= 9999 && Math.abs((long) a[1]) <= 9999, BAD);
                return space.pair(a[0], a[1]);
            case "space": return space(a[0]);
            case "fraction":
                need(isSymbol(a[0]) && isCoordinate(a[1]) && isPart(a[2]), BAD);
                return space.coordinates[a[0]][a[1]].part(a[2]);
            case "table":
                need(isOperator(a[0]) && isCoordinate(a[1]) && isCoordinate(a[2]) && isPart(a[3]), BAD);
                need(ModelSpace.coprime(a[0], space.level), NO);
                return space.matrix(a[0])[a[1]][a[2]].part(a[3]);
            case "trace": return trace(a[0], a[1]);
            case "polynomial": return polynomial(a[0], a[1], a[2]);
            case "root": return root(a[0], a[1]);
            case "formula": return formula(a[0], a[1]);
            case "sum":
                need(isCoordinate(a[0]) && isPart(a[1]), BAD);
                return sum[a[0]].part(a[1]);
            case "boundary":
                need(a[0] >= 0 && a[0] < space.cusps && isPart(a[1]), BAD);
                return space.boundary(sum)[a[0]].part(a[1]);
            case "cuspidal": return isCuspidal(sum) ? 1 : 0;
            default: return answerOfTexts(name, a);
        }
    }

    private long answerOfTexts(String name, int[] a) {
        switch (name) {
            case "type":
                need(a[0] >= 0 && a[0] <= 127, BAD);
                need(text.length() < 120, FULL);
                text += (char) a[0];
                return text.length();
            case "clear":
                int length = text.length();
                text = "";
                return length;
            case "reads": return reads();
            case "back":
                need(!kept.isEmpty(), NO);
                Kept last = kept.removeLast();
                space = last.space;
                sum = last.sum;
                return kept.size();
            case "told": return told(a[0]);
            case "digest": return digest();
            default: throw new IllegalStateException(name);
        }
    }

    private static void need(boolean truth, long otherwise) {
        if (!truth) {
            throw new Refused(otherwise);
        }
    }

    private boolean isSymbol(int s) {
        return s >= 0 && s < space.pairs.size();
    }

    private boolean isCoordinate(int i) {
        return i >= 0 && i < space.free.length;
    }

    private static boolean isPart(int what) {
        return what == 0 || what == 1;
    }

    private static boolean isOperator(int n) {
        return n >= 1 && n <= 7;
    }

    private boolean isCuspidal(Q[] element) {
        for (Q q : space.boundary(element)) {
            if (!q.isZero()) {
                return false;
            }
        }
        return true;
    }

    private long symbol(int s, int what) {
        need(isSymbol(s) && what >= 0 && what <= 6, BAD);
        switch (what) {
            case 0: return space.pairs.get(s)[0];
            case 1: return space.pairs.get(s)[1];
            case 2: return space.turned(s);
            case 3: return space.rotated(s);
            case 4: return space.shifted(s);
            case 5: return space.cuspOf[s];
            default: return space.freeNumber(s);
        }
    }

    private long space(int what) {
        need(what >= 0 && what <= 3, BAD);
        switch (what) {
            case 0: return space.free.length;
            case 1: return space.cusps;
            case 2: return space.cuspidalBasis().length / 2;
            default:
                int found = 0;
                for (int i = 0; i < space.free.length; i++) {
                    Q[] unit = ModelSpace.zeros(space.free.length);
                    unit[i] = Q.ONE;
                    found += isCuspidal(unit) ? 1 : 0;
                }
                return found;
        }
    }

    private long trace(int n, int what) {
        need(isOperator(n) && isPart(what), BAD);
        need(ModelSpace.coprime(n, space.level), NO);
        Q[][] matrix = what == 0 ? space.matrix(n) : space.cuspidalMatrix(n);
        Q total = Q.ZERO;
        for (int i = 0; i < matrix.length; i++) {
            total = total.plus(matrix[i][i]);
        }
        return whole(total);
    }

    private static long whole(Q value) {
        if (!value.den.equals(BigInteger.ONE)) {
            throw new IllegalStateException("not an integer");
        }
        return value.part(0);
    }

    private long polynomial(int n, int what, int k) {
        need(isOperator(n) && isPart(what) && k >= 0, BAD);
        need(ModelSpace.coprime(n, space.level), NO);
        Q[] coefficients = space.polynomial(n, what);
        return k < coefficients.length ? whole(coefficients[k]) : 0;
    }

    /** How many derivatives in a row, from the polynomial itself on, are 0 at v. */
    private long root(int n, int v) {
        need(isOperator(n) && v >= -8 && v <= 8, BAD);
        need(ModelSpace.coprime(n, space.level), NO);
        Q[] p = space.polynomial(n, 1);
        int found = 0;
        while (valueAt(p, v).isZero()) {
            found++;
            Q[] derivative = ModelSpace.zeros(Math.max(p.length - 1, 1));
            for (int k = 1; k < p.length; k++) {
                derivative[k - 1] = p[k].times(Q.of(k));
            }
            p = derivative;
        }
        return found;
    }

    private static Q valueAt(Q[] p, int v) {
        Q total = Q.ZERO;
        Q power = Q.ONE;
        for (Q coefficient : p) {
            total = total.plus(coefficient.times(power));
            power = power.times(Q.of(v));
        }
        return total;
    }

    private static boolean isPrime(int p) {
        return p > 1 && BigInteger.valueOf(p).isProbablePrime(50);
    }

    static long formula(int m, int what) {
        need(m >= 1 && m <= 60 && what >= 0 && what <= 5, BAD);
        Q index = Q.of(m);
        long e2 = m % 4 == 0 ? 0 : 1;
        long e3 = m % 9 == 0 ? 0 : 1;
        long ends = 0;
        long old = 0;
        for (int t = 1; t <= m; t++) {
            if (m % t != 0) {
                continue;
            }
            if (isPrime(t)) {
                index = index.times(Q.ONE.plus(Q.ONE.over(Q.of(t))));
                e2 *= t == 2 ? 1 : (t - 1) % 4 == 0 ? 2 : 0;
                e3 *= t == 3 ? 1 : (t - 1) % 3 == 0 ? 2 : 0;
            }
            int g = BigInteger.valueOf(t).gcd(BigInteger.valueOf(m / t)).intValue();
            for (int k = 1; k <= g; k++) {
                ends += BigInteger.valueOf(k).gcd(BigInteger.valueOf(g)).intValue() == 1 ? 1 : 0;
            }
            if (what == 5 && t < m) {
                for (int d = 1; d <= m / t; d++) {
                    old += m / t % d == 0 ? formula(t, 5) : 0;
                }
            }
        }
        long forms = whole(Q.ONE.plus(Q.of(whole(index) - 3 * e2 - 4 * e3 - 6 * ends).over(Q.of(12))));
        long[] values = {whole(index), e2, e3, ends, forms, forms - old};
        return values[what];
    }

    private long change(String name, int[] a) {
        Kept before = new Kept(space, sum);
        long result = perform(name, a);
        keep(before);
        return result;
    }

    private void keep(Kept before) {
        kept.addLast(before);
        if (kept.size() > 6) {
            kept.removeFirst();
        }
    }

    /** Changes the level and the sum, and nothing if it refuses. */
    private long perform(String name, int[] a) {
        switch (name) {
            case "level":
                need(a[0] >= 1 && a[0] <= 25, BAD);
                long before = space.level;
                space = ModelSpace.of(a[0]);
                sum = ModelSpace.zeros(space.free.length);
                return before;
            case "adds":
                need(isSymbol(a[0]) && a[1] >= -999 && a[1] <= 999, BAD);
                return become(added(sum, a[0], a[1]));
            case "applies":
                need(isOperator(a[0]), BAD);
                need(ModelSpace.coprime(a[0], space.level), NO);
                return become(space.image(a[0], sum));
            case "walks":
                need(a[0] >= 0 && a[0] <= 99 && a[1] >= 1 && a[1] <= 99, BAD);
                return become(walked(a[0], a[1]));
            default:
                return become(ModelSpace.zeros(space.free.length));
        }
    }

    private Q[] added(Q[] element, int s, int v) {
        Q[] result = element.clone();
        for (int i = 0; i < result.length; i++) {
            result[i] = result[i].plus(space.coordinates[s][i].times(Q.of(v)));
        }
        return result;
    }

    private Q[] walked(int a, int b) {
        List<Integer> terms = new ArrayList<>();
        Q rest = Q.of(a).over(Q.of(b));
        while (true) {
            terms.add((int) rest.floor().part(0));
            rest = rest.minus(rest.floor());
            if (rest.isZero()) {
                break;
            }
            rest = Q.ONE.over(rest);
        }
        int q = 0;
        int r = 1;
        Q[] result = added(sum, space.pair(0, 1), 1);
        for (int k = 0; k < terms.size(); k++) {
            int next = k == 0 ? 1 : terms.get(k) * q + r;
            r = q;
            q = next;
            result = added(result, k % 2 == 1 ? space.pair(q, r) : space.pair(-q, r), 1);
        }
        return result;
    }

    private long become(Q[] element) {
        int nonZero = 0;
        for (Q q : element) {
            need(q.num.abs().compareTo(RANGE) <= 0 && q.den.compareTo(RANGE) <= 0, NO);
            nonZero += q.isZero() ? 0 : 1;
        }
        sum = element;
        return nonZero;
    }

    /** A text can be gone on with if the pattern fits it or looks for more behind its end. */
    static int fault(String text) {
        for (int k = 0; k < text.length(); k++) {
            Matcher matcher = ALL.matcher(text.substring(0, k + 1));
            if (!matcher.matches() && !matcher.hitEnd()) {
                return k;
            }
        }
        return ALL.matcher(text).matches() ? -1 : text.length();
    }

    private long reads() {
        int fault = fault(text);
        if (fault >= 0) {
            return -10 - fault;
        }
        Kept before = new Kept(space, sum);
        Matcher matcher = ONE.matcher(text);
        int commands = 0;
        while (matcher.find()) {
            try {
                performCommand(matcher);
            } catch (Refused refused) {
                space = before.space;
                sum = before.sum;
                return -1000 - commands;
            }
            commands++;
        }
        keep(before);
        return commands;
    }

    private void performCommand(Matcher m) {
        if (m.group(2) != null) {
            perform("level", new int[] {Integer.parseInt(m.group(2))});
        } else if (m.group(3) != null) {
            perform("adds", new int[] {Integer.parseInt(m.group(4)), Integer.parseInt(m.group(3))});
        } else if (m.group(5) != null) {
            perform("applies", new int[] {Integer.parseInt(m.group(5))});
        } else if (m.group(6) != null) {
            perform("walks", new int[] {Integer.parseInt(m.group(6)), Integer.parseInt(m.group(7))});
        } else {
            perform("z", new int[0]);
        }
    }

    private long told(int what) {
        need(what >= 0 && what <= 5, BAD);
        long[] values = {errors[0], errors[1], errors[2], text.length(), space.level, kept.size()};
        return values[what];
    }

    private long digest() {
        long h = 2297;
        for (int what = 0; what < 6; what++) {
            h = 31 * h + told(what);
        }
        h = 31 * h + space.pairs.size();
        for (int what = 0; what < 3; what++) {
            h = 31 * h + space(what);
        }
        for (Q q : sum) {
            h = 31 * h + q.part(0);
            h = 31 * h + q.part(1);
        }
        return 31 * h + (isCuspidal(sum) ? 1 : 0);
    }
}
