/**
 * The trace of the Hecke operator n on the cusp forms of weight 2 for Gamma0(N), n coprime to N, by the formula of
 * Eichler and Selberg: it knows class numbers and congruences alone, and no symbols.
 */
final class TraceFormula {
    private TraceFormula() {
    }

    static long trace(int n, int level) {
        long twelfths = -elliptic(n, level) - 6 * parabolic(n, level) + 12 * sumOfDivisors(n);
        int root = (int) Math.round(Math.sqrt(n));
        if (root * root == n) {
            twelfths += index(level);
        }
        if (twelfths % 12 != 0) {
            throw new IllegalStateException("not an integer");
        }
        return twelfths / 12;
    }

    private static int gcd(int a, int b) {
        return b == 0 ? Math.abs(a) : gcd(b, a % b);
    }

    private static int sumOfDivisors(int n) {
        int total = 0;
        for (int t = 1; t <= n; t++) {
            total += n % t == 0 ? t : 0;
        }
        return total;
    }

    /** The number of points of the projective line modulo m, counted. */
    private static int index(int m) {
        int pairs = 0;
        int units = 0;
        for (int c = 0; c < m; c++) {
            units += gcd(c, m) == 1 ? 1 : 0;
            for (int d = 0; d < m; d++) {
                pairs += gcd(gcd(c, d), m) == 1 ? 1 : 0;
            }
        }
        return pairs / units;
    }

    /** Six times the sum of class numbers, each divided by half its number of units. */
    private static long elliptic(int n, int level) {
        long total = 0;
        for (int t = -2 * n; t <= 2 * n; t++) {
            for (int f = 1; f <= 2 * n && t * t < 4 * n; f++) {
                int discriminant = t * t - 4 * n;
                if (discriminant % (f * f) == 0 && Math.floorMod(discriminant / (f * f), 4) <= 1) {
                    total += sixClassNumbers(discriminant / (f * f)) * solutions(t, f, n, level);
                }
            }
        }
        return total;
    }

    /** Counts the reduced forms (a, b, c) without a common divisor. */
    private static long sixClassNumbers(int discriminant) {
        int forms = 0;
        for (int a = 1; 3 * a * a <= -discriminant; a++) {
            for (int b = -a + 1; b <= a; b++) {
                int rest = b * b - discriminant;
                int c = rest / (4 * a);
                boolean reduced = rest % (4 * a) == 0 && c >= a && (c > a || b >= 0);
                forms += reduced && gcd(gcd(a, b), c) == 1 ? 1 : 0;
            }
        }
        return discriminant == -3 ? 2 : discriminant == -4 ? 3 : 6L * forms;
    }

    /** The x modulo N that lead to a root of x * x - t * x + n modulo N times gcd(N, f), with their weight. */
    private static long solutions(int t, int f, int n, int level) {
        int common = gcd(level, f);
        int found = 0;
        for (int x = 0; x < level; x++) {
            boolean lifts = false;
            for (int y = x; y < level * common; y += level) {
                lifts |= (y * y - t * y + n) % (level * common) == 0;
            }
            found += lifts && gcd(x, level) == 1 ? 1 : 0;
        }
        return (long) index(level) / index(level / common) * found;
    }

    private static long parabolic(int n, int level) {
        long total = 0;
        for (int d = 1; d <= n; d++) {
            for (int c = 1; c <= level && n % d == 0; c++) {
                int common = level % c == 0 ? gcd(c, level / c) : 0;
                if (common > 0 && gcd(level, n / d - d) % common == 0) {
                    total += (long) Math.min(d, n / d) * coprimes(common);
                }
            }
        }
        return total;
    }

    private static int coprimes(int k) {
        int found = 0;
        for (int t = 1; t <= k; t++) {
            found += gcd(t, k) == 1 ? 1 : 0;
        }
        return found;
    }
}
