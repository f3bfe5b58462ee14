/**
 * What the document defines, and what follows from it, asked of the program through its public face alone: no model
 * stands beside it, so a sentence that the model reads as the program does is checked here once more.
 */
public final class LawsTest {
    private static final int NONE = -1, NO = -3;
    /** A prime: relations that are independent modulo it are independent. */
    private static final long PRIME = 1000003;
    private static final Due DUE = new Due("LawsTest");
    /** The genus of the level M, from 1 to 60, as tables of modular curves have it. */
    private static final int[] FORMS = {0, 0, 0, 0, 0, 0, 0, 0, 0, 0, 1, 0, 0, 1, 1, 0, 1, 0, 1, 1, 1, 2, 2, 1, 0, 2,
        1, 2, 2, 3, 2, 1, 3, 3, 3, 1, 2, 4, 3, 3, 3, 5, 3, 4, 3, 5, 4, 3, 1, 2, 5, 5, 4, 4, 5, 5, 5, 6, 5, 7};

    public static void main(String[] args) {
        for (int level = 1; level <= 25; level++) {
            View view = new View(level);
            pairsAreLeast(view);
            mapsOfSymbols(view);
            cuspsAreOrbits(view);
            relationsHold(view);
            freeSymbols(view);
            boundaryOfEachSymbol(view);
            genus(view);
            imageOfEachSymbol(view);
            productsOfOperators(view);
            traces(view);
            polynomials(view);
            roots(view);
            endsOfPaths(view);
        }
        formulas();
        DUE.end();
    }

    private static int gcd(int a, int b) {
        return b == 0 ? a : gcd(b, a % b);
    }

    /** SYMBOLS: a symbol's pair is the least of its class, all of which leads to it; the symbols are in order. */
    private static void pairsAreLeast(View v) {
        for (int s = 0; s < v.count; s++) {
            String what = "symbol " + s + " at " + v.level;
            for (int u = 1; u <= v.level; u++) {
                if (gcd(u, v.level) == 1) {
                    int c = u * v.c(s) % v.level;
                    int d = u * v.d(s) % v.level;
                    DUE.is("pair(" + c + ", " + d + ") at " + v.level, v.ask().pair(c, d), s);
                    DUE.holds(what + " has its least pair", c > v.c(s) || c == v.c(s) && d >= v.d(s));
                }
            }
            DUE.holds(what + " is in order", s == 0 || v.c(s) > v.c(s - 1)
                    || v.c(s) == v.c(s - 1) && v.d(s) > v.d(s - 1));
        }
    }

    private static void mapsOfSymbols(View v) {
        for (int s = 0; s < v.count; s++) {
            int c = v.c(s);
            int d = v.d(s);
            String what = " of symbol " + s + " at " + v.level;
            DUE.is("S" + what, v.turned(s), v.ask().pair(-d, c));
            DUE.is("R" + what, v.rotated(s), v.ask().pair(c + d, -c));
            DUE.is("U" + what, v.shifted(s), v.ask().pair(c, c + d));
            DUE.is("S twice" + what, v.turned(v.turned(s)), s);
            DUE.is("R three times" + what, v.rotated(v.rotated(v.rotated(s))), s);
            DUE.is("S after R, which is U," + what, v.turned(v.rotated(s)), v.shifted(s));
        }
    }

    /** "The cusps are the sets of symbols that lead to one another by U", in the order of their lowest symbols. */
    private static void cuspsAreOrbits(View v) {
        int next = 0;
        for (int s = 0; s < v.count; s++) {
            boolean lowest = true;
            int t = s;
            for (int step = 0; step < v.count; step++) {
                t = v.shifted(t);
                lowest &= t >= s;
                DUE.is("cusp of symbol " + t + " at " + v.level, v.cusp(t), v.cusp(s));
            }
            if (lowest) {
                DUE.is("cusp of the lowest symbol " + s + " at " + v.level, v.cusp(s), next);
                next++;
            }
        }
        DUE.is("space(1) at " + v.level, v.cusps, next);
    }

    /** ELEMENTS: the coordinates satisfy each relation. */
    private static void relationsHold(View v) {
        for (int s = 0; s < v.count; s++) {
            int r = v.rotated(s);
            for (int i = 0; i < v.dimension; i++) {
                String what = " of symbol " + s + ", coordinate " + i + " at " + v.level;
                DUE.is("x + S(x)" + what, v.coordinates[s][i] + v.coordinates[v.turned(s)][i], 0);
                DUE.is("x + R(x) + R(R(x))" + what,
                        v.coordinates[s][i] + v.coordinates[r][i] + v.coordinates[v.rotated(r)][i], 0);
            }
        }
    }

    /**
     * A symbol that is not free is a sum of lower ones; and no free one is, as there are so many independent
     * relations that the space cannot have fewer dimensions than free symbols are left.
     */
    private static void freeSymbols(View v) {
        int next = 0;
        for (int s = 0; s < v.count; s++) {
            String what = "symbol " + s + " at " + v.level;
            boolean free = v.freeNumber(s) != NONE;
            for (int i = free ? 0 : next; i < v.dimension; i++) {
                DUE.is("coordinate " + i + " of " + what, v.coordinates[s][i], free && i == next ? 1 : 0);
            }
            if (free) {
                DUE.is(what + ", which free one", v.freeNumber(s), next);
                next++;
            }
        }
        DUE.is("space(0) at " + v.level, v.dimension, next);
        DUE.is("independent relations at " + v.level, relationRank(v), v.count - v.dimension);
    }

    private static int relationRank(View v) {
        long[][] rows = new long[2 * v.count][v.count];
        for (int s = 0; s < v.count; s++) {
            int r = v.rotated(s);
            rows[2 * s][s]++;
            rows[2 * s][v.turned(s)]++;
            rows[2 * s + 1][s]++;
            rows[2 * s + 1][r]++;
            rows[2 * s + 1][v.rotated(r)]++;
        }
        return rank(rows, v.count);
    }

    /** Modulo the prime, without a division: a row is multiplied by the leading number before it is reduced. */
    private static int rank(long[][] rows, int columns) {
        int top = 0;
        for (int c = 0; c < columns; c++) {
            int found = top;
            while (found < rows.length && Math.floorMod(rows[found][c], PRIME) == 0) {
                found++;
            }
            if (found == rows.length) {
                continue;
            }
            long[] lead = rows[found];
            rows[found] = rows[top];
            rows[top] = lead;
            for (int r = top + 1; r < rows.length; r++) {
                long times = rows[r][c];
                for (int k = 0; k < columns; k++) {
                    rows[r][k] = Math.floorMod(rows[r][k] * lead[c] - times * lead[k], PRIME);
                }
            }
            top++;
        }
        return top;
    }

    /** "1 times the cusp of x, minus 1 times the cusp of S(x)", for each symbol, be it free or not. */
    private static void boundaryOfEachSymbol(View v) {
        int closed = 0;
        for (int s = 0; s < v.count; s++) {
            PairSymbols x = Starts.at(v.level);
            x.adds(s, -6);
            int ahead = v.cusp(s);
            int behind = v.cusp(v.turned(s));
            for (int cusp = 0; cusp < v.cusps; cusp++) {
                int due = (cusp == behind ? 6 : 0) - (cusp == ahead ? 6 : 0);
                DUE.is("boundary(" + cusp + ", 0) of symbol " + s + " at " + v.level, x.boundary(cusp, 0), due);
            }
            DUE.is("cuspidal() of symbol " + s + " at " + v.level, x.cuspidal(), ahead == behind ? 1 : 0);
            closed += v.freeNumber(s) != NONE && ahead == behind ? 1 : 0;
        }
        DUE.is("space(3) at " + v.level, v.ask().space(3), closed);
    }

    /** The cuspidal elements are as many dimensions less as the boundaries of the free symbols have. */
    private static void genus(View v) {
        long[][] rows = new long[v.dimension][v.cusps];
        for (int s = 0; s < v.count; s++) {
            if (v.freeNumber(s) != NONE) {
                rows[v.freeNumber(s)][v.cusp(s)]++;
                rows[v.freeNumber(s)][v.cusp(v.turned(s))]--;
            }
        }
        DUE.is("twice space(2) at " + v.level, 2 * v.ask().space(2), v.dimension - rank(rows, v.cusps));
        DUE.is("space(2) at " + v.level, v.ask().space(2), FORMS[v.level - 1]);
    }

    /** OPERATORS: the image of each symbol, be it free or not, is the sum over the matrices of the document. */
    private static void imageOfEachSymbol(View v) {
        for (int n = 1; n <= 7; n++) {
            for (int s = 0; s < v.count; s++) {
                PairSymbols x = Starts.at(v.level);
                x.adds(s, 1);
                String what = "applies(" + n + ") to symbol " + s + " at " + v.level;
                if (gcd(n, v.level) != 1) {
                    DUE.is(what, x.applies(n), NO);
                    continue;
                }
                long[] due = image(v, n, s);
                long answer = x.applies(n);
                int nonZero = 0;
                for (int i = 0; i < v.dimension; i++) {
                    DUE.is(what + ", sum(" + i + ", 0)", x.sum(i, 0), due[i]);
                    nonZero += due[i] != 0 ? 1 : 0;
                    if (v.freeNumber(s) != NONE) {
                        DUE.is("table(" + n + ", " + i + ", " + v.freeNumber(s) + ", 0) at " + v.level,
                                v.ask().table(n, i, v.freeNumber(s), 0), due[i]);
                    }
                }
                DUE.is(what, answer, nonZero);
            }
        }
    }

    /** From a > b and d > c follows that n is at least a + d - 1, so no number goes beyond n. */
    private static long[] image(View v, int n, int s) {
        long[] result = new long[v.dimension];
        for (int a = 0; a <= n; a++) {
            for (int b = 0; b < a; b++) {
                for (int d = 0; d <= n; d++) {
                    for (int c = 0; c < d; c++) {
                        if (a * d - b * c == n) {
                            addTo(result, v, v.ask().pair(v.c(s) * a + v.d(s) * c, v.c(s) * b + v.d(s) * d));
                        }
                    }
                }
            }
        }
        return result;
    }

    private static void addTo(long[] row, View v, int s) {
        for (int i = 0; s != NONE && i < row.length; i++) {
            row[i] += v.coordinates[s][i];
        }
    }

    /** Of Hecke operators it is known that T(6) = T(2) T(3) = T(3) T(2) and T(4) = T(2) T(2) - 2. */
    private static void productsOfOperators(View v) {
        boolean two = gcd(2, v.level) == 1;
        boolean three = gcd(3, v.level) == 1;
        for (int i = 0; i < v.dimension; i++) {
            for (int j = 0; j < v.dimension; j++) {
                String what = ", row " + i + ", column " + j + " at " + v.level;
                if (two) {
                    DUE.is("operator 4" + what, v.ask().table(4, i, j, 0), product(v, 2, 2, i, j) - (i == j ? 2 : 0));
                }
                if (two && three) {
                    DUE.is("operator 6" + what, v.ask().table(6, i, j, 0), product(v, 2, 3, i, j));
                    DUE.is("operator 6" + what, v.ask().table(6, i, j, 0), product(v, 3, 2, i, j));
                }
            }
        }
    }

    private static long product(View v, int m, int n, int i, int j) {
        long total = 0;
        for (int k = 0; k < v.dimension; k++) {
            total += v.ask().table(m, i, k, 0) * v.ask().table(n, k, j, 0);
        }
        return total;
    }

    /** Each cusp form stands twice among the cuspidal elements. */
    private static void traces(View v) {
        for (int n = 1; n <= 7; n++) {
            if (gcd(n, v.level) == 1) {
                long total = 0;
                for (int i = 0; i < v.dimension; i++) {
                    total += v.ask().table(n, i, i, 0);
                }
                DUE.is("trace(" + n + ", 0) at " + v.level, v.ask().trace(n, 0), total);
                DUE.is("trace(" + n + ", 1) at " + v.level, v.ask().trace(n, 1), 2 * TraceFormula.trace(n, v.level));
            }
        }
    }

    /** The polynomial of the matrix by Newton's identities, the cuspidal one as a factor of it with its trace. */
    private static void polynomials(View v) {
        for (int n = 1; n <= 7; n++) {
            if (gcd(n, v.level) != 1) {
                continue;
            }
            String what = "polynomial(" + n + ", ..) at " + v.level;
            long[] whole = v.polynomial(n, 0);
            long[] cuspidal = v.polynomial(n, 1);
            newton(what, whole, v.matrix(n));
            DUE.is(what + ", cuspidal, leading", cuspidal[cuspidal.length - 1], 1);
            DUE.holds(what + ", cuspidal, divides", divides(cuspidal, whole));
            if (cuspidal.length > 1) {
                DUE.is(what + ", cuspidal, trace", cuspidal[cuspidal.length - 2], -v.ask().trace(n, 1));
            }
            DUE.holds(what + ", cuspidal, is a square", isSquare(cuspidal));
        }
    }

    private static void newton(String what, long[] p, long[][] matrix) {
        int size = matrix.length;
        long[] sums = new long[size + 1];
        long[][] power = new long[size][size];
        for (int i = 0; i < size; i++) {
            power[i][i] = 1;
        }
        DUE.is(what + ", leading", p[size], 1);
        for (int k = 1; k <= size; k++) {
            power = times(power, matrix);
            for (int i = 0; i < size; i++) {
                sums[k] += power[i][i];
            }
            long total = k * p[size - k];
            for (int j = 1; j <= k; j++) {
                total += sums[j] * p[size - k + j];
            }
            DUE.is(what + ", identity " + k, total, 0);
        }
    }

    private static long[][] times(long[][] left, long[][] right) {
        int size = left.length;
        long[][] result = new long[size][size];
        for (int i = 0; i < size; i++) {
            for (int j = 0; j < size; j++) {
                for (int k = 0; k < size; k++) {
                    result[i][j] += left[i][k] * right[k][j];
                }
            }
        }
        return result;
    }

    /** Long division; the divisor's leading coefficient is 1. */
    private static boolean divides(long[] divisor, long[] p) {
        long[] rest = p.clone();
        for (int top = rest.length - 1; top >= divisor.length - 1; top--) {
            long times = rest[top];
            for (int k = 0; k < divisor.length; k++) {
                rest[top - k] -= times * divisor[divisor.length - 1 - k];
            }
        }
        for (long coefficient : rest) {
            if (coefficient != 0) {
                return false;
            }
        }
        return true;
    }

    /** The degrees are 0, 2 and 4 here: (x * x + a * x + b) squared has 2 * a, a * a + 2 * b, 2 * a * b, b * b. */
    private static boolean isSquare(long[] p) {
        if (p.length == 1) {
            return p[0] == 1;
        }
        if (p.length == 3) {
            return p[1] * p[1] == 4 * p[0];
        }
        long a = p[3] / 2;
        long b = (p[2] - a * a) / 2;
        return p.length == 5 && p[3] == 2 * a && p[2] == a * a + 2 * b && p[1] == 2 * a * b && p[0] == b * b;
    }

    /** The multiplicity m of v: the power m of x - v divides the cuspidal polynomial, and the power m + 1 does not. */
    private static void roots(View v) {
        for (int n = 1; n <= 7; n++) {
            for (int root = -8; root <= 8 && gcd(n, v.level) == 1; root++) {
                long[] cuspidal = v.polynomial(n, 1);
                int answer = v.ask().root(n, root);
                String what = "root(" + n + ", " + root + ") at " + v.level;
                DUE.holds(what + " is not too great", answer >= 0 && divides(power(root, answer), cuspidal));
                DUE.holds(what + " is not too small", !divides(power(root, answer + 1), cuspidal));
            }
        }
    }

    private static long[] power(int root, int exponent) {
        long[] result = {1};
        for (int k = 0; k < exponent; k++) {
            long[] next = new long[result.length + 1];
            for (int j = 0; j < result.length; j++) {
                next[j + 1] += result[j];
                next[j] -= root * result[j];
            }
            result = next;
        }
        return result;
    }

    /**
     * PATHS: the terms of a path follow on one another, so its boundary is the cusp of its last term, minus that of
     * (1 : 0); and the last q is the denominator in lowest terms, the last r the one of the convergent before.
     */
    private static void endsOfPaths(View v) {
        for (int b = 1; b <= 99; b++) {
            for (int a = 0; a < b; a += 1 + b / 12) {
                int q = b / gcd(a, b);
                int top = a / gcd(a, b);
                PairSymbols x = Starts.at(v.level);
                x.walks(a, b);
                int ahead = v.cusp(lastSymbol(v, top, q));
                int behind = v.cusp(v.ask().pair(1, 0));
                for (int cusp = 0; cusp < v.cusps; cusp++) {
                    int due = (cusp == ahead ? 1 : 0) - (cusp == behind ? 1 : 0);
                    DUE.is("boundary(" + cusp + ", 0) after walks(" + a + ", " + b + ") at " + v.level,
                            x.boundary(cusp, 0), due);
                }
            }
        }
    }

    /** U leaves c as it is, so the cusp of (q : r) needs r only modulo q: it is the inverse of the numerator. */
    private static int lastSymbol(View v, int top, int q) {
        int r = 0;
        while (Math.floorMod(top * r - 1, q) != 0) {
            r++;
        }
        return v.ask().pair(q, r);
    }

    /** FORMULAS: forms are told by tables; new ones by their being so many that each form comes from one of them. */
    private static void formulas() {
        PairSymbols x = new PairSymbols();
        for (int m = 1; m <= 60; m++) {
            DUE.is("formula(" + m + ", 4)", x.formula(m, 4), FORMS[m - 1]);
        }
        for (int m = 1; m <= 60; m++) {
            x = new PairSymbols();
            int total = 0;
            for (int t = 1; t <= m; t++) {
                for (int d = 1; d <= m && m % t == 0; d++) {
                    total += m / t % d == 0 && d <= m / t ? x.formula(t, 5) : 0;
                }
            }
            DUE.is("all forms of " + m + " from new ones", total, FORMS[m - 1]);
        }
        int[][] fresh = {{22, 0}, {23, 2}, {26, 2}, {28, 0}, {30, 1}, {33, 1}, {35, 3}, {37, 2}, {41, 3}, {43, 3},
            {46, 1}, {49, 1}, {50, 2}, {54, 2}, {57, 3}, {58, 2}};
        for (int[] known : fresh) {
            DUE.is("formula(" + known[0] + ", 5)", x.formula(known[0], 5), known[1]);
        }
    }
}
