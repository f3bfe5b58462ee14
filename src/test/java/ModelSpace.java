import java.util.ArrayList;
import java.util.List;

/**
 * The space of one level, written from the document alone with exact fractions and in the plainest
 * way: it shares no method of solving with the program.
 */
final class ModelSpace {
    private static final ModelSpace[] KNOWN = new ModelSpace[26];

    final int level;
    final List<int[]> pairs = new ArrayList<>();
    final int[] free;
    final Q[][] coordinates;
    final int[] cuspOf;
    final int cusps;
    private final Q[][][] matrices = new Q[8][][];
    private final Q[][][] cuspidals = new Q[8][][];
    private final Q[][][] polynomials = new Q[8][2][];

    static ModelSpace of(int level) {
        if (KNOWN[level] == null) {
            KNOWN[level] = new ModelSpace(level);
        }
        return KNOWN[level];
    }

    private ModelSpace(int level) {
        this.level = level;
        for (int c = 0; c < level; c++) {
            for (int d = 0; d < level; d++) {
                if (isPair(c, d) && isLeast(c, d)) {
                    pairs.add(new int[] {c, d});
                }
            }
        }
        int n = pairs.size();
        cuspOf = new int[n];
        cusps = findCusps();
        Q[][] rows = new Q[2 * n][n];
        for (int x = 0; x < n; x++) {
            int r = rotated(x);
            rows[2 * x] = sumOf(x, turned(x));
            rows[2 * x + 1] = sumOf(x, r, rotated(r));
        }
        int[] pivotRow = reduceFromTheRight(rows, n);
        List<Integer> frees = new ArrayList<>();
        for (int x = 0; x < n; x++) {
            if (pivotRow[x] < 0) {
                frees.add(x);
            }
        }
        free = frees.stream().mapToInt(Integer::intValue).toArray();
        coordinates = new Q[n][free.length];
        for (int x = 0; x < n; x++) {
            for (int i = 0; i < free.length; i++) {
                coordinates[x][i] = pivotRow[x] < 0 ? (free[i] == x ? Q.ONE : Q.ZERO)
                        : Q.ZERO.minus(rows[pivotRow[x]][free[i]]);
            }
        }
    }

    private boolean isPair(int c, int d) {
        for (int t = 2; t <= level; t++) {
            if (c % t == 0 && d % t == 0 && level % t == 0) {
                return false;
            }
        }
        return true;
    }

    static boolean coprime(int a, int b) {
        for (int t = 2; t <= Math.min(a, b); t++) {
            if (a % t == 0 && b % t == 0) {
                return false;
            }
        }
        return true;
    }

    private boolean isLeast(int c, int d) {
        int[] least = leastOf(c, d);
        return least[0] == c && least[1] == d;
    }

    private int[] leastOf(int c, int d) {
        int[] least = {c, d};
        for (int u = 1; u <= level; u++) {
            int e = u * c % level;
            int f = u * d % level;
            if (coprime(u, level) && (e < least[0] || e == least[0] && f < least[1])) {
                least = new int[] {e, f};
            }
        }
        return least;
    }

    /** The number of the symbol (c : d), or -1. */
    int pair(int c, int d) {
        int e = ((c % level) + level) % level;
        int f = ((d % level) + level) % level;
        if (!isPair(e, f)) {
            return -1;
        }
        int[] least = leastOf(e, f);
        for (int s = 0; s < pairs.size(); s++) {
            if (pairs.get(s)[0] == least[0] && pairs.get(s)[1] == least[1]) {
                return s;
            }
        }
        throw new IllegalStateException("a pair without a symbol");
    }

    int turned(int s) {
        return pair(-pairs.get(s)[1], pairs.get(s)[0]);
    }

    int rotated(int s) {
        return pair(pairs.get(s)[0] + pairs.get(s)[1], -pairs.get(s)[0]);
    }

    int shifted(int s) {
        return pair(pairs.get(s)[0], pairs.get(s)[0] + pairs.get(s)[1]);
    }

    int freeNumber(int s) {
        for (int i = 0; i < free.length; i++) {
            if (free[i] == s) {
                return i;
            }
        }
        return -1;
    }

    private int findCusps() {
        java.util.Arrays.fill(cuspOf, -1);
        int next = 0;
        for (int s = 0; s < cuspOf.length; s++) {
            if (cuspOf[s] < 0) {
                for (int t = s; cuspOf[t] < 0; t = shifted(t)) {
                    cuspOf[t] = next;
                }
                next++;
            }
        }
        return next;
    }

    private Q[] sumOf(int... symbols) {
        Q[] row = zeros(pairs.size());
        for (int s : symbols) {
            row[s] = row[s].plus(Q.ONE);
        }
        return row;
    }

    static Q[] zeros(int n) {
        Q[] row = new Q[n];
        java.util.Arrays.fill(row, Q.ZERO);
        return row;
    }

    /** Full reduction; for each column the row that has its pivot there, or -1. */
    private static int[] reduceFromTheRight(Q[][] rows, int columns) {
        int[] pivotRow = new int[columns];
        java.util.Arrays.fill(pivotRow, -1);
        int top = 0;
        for (int c = columns - 1; c >= 0; c--) {
            if (clearColumn(rows, top, c)) {
                pivotRow[c] = top;
                top++;
            }
        }
        return pivotRow;
    }

    /** Brings a row with something in column c to row top and clears the column elsewhere. */
    private static boolean clearColumn(Q[][] rows, int top, int c) {
        int r = top;
        while (r < rows.length && rows[r][c].isZero()) {
            r++;
        }
        if (r == rows.length) {
            return false;
        }
        Q[] pivot = rows[r];
        rows[r] = rows[top];
        Q lead = pivot[c];
        for (int k = 0; k < pivot.length; k++) {
            pivot[k] = pivot[k].over(lead);
        }
        rows[top] = pivot;
        for (int q = 0; q < rows.length; q++) {
            if (q != top && !rows[q][c].isZero()) {
                Q factor = rows[q][c];
                for (int k = 0; k < pivot.length; k++) {
                    rows[q][k] = rows[q][k].minus(factor.times(pivot[k]));
                }
            }
        }
        return true;
    }

    /** The coefficients of the cusps in the boundary of an element given by its coordinates. */
    Q[] boundary(Q[] element) {
        Q[] result = zeros(cusps);
        for (int i = 0; i < free.length; i++) {
            int ahead = cuspOf[free[i]];
            int behind = cuspOf[turned(free[i])];
            result[ahead] = result[ahead].plus(element[i]);
            result[behind] = result[behind].minus(element[i]);
        }
        return result;
    }

    /** The image of an element under operator n. */
    Q[] image(int n, Q[] element) {
        Q[] result = zeros(free.length);
        for (int j = 0; j < free.length; j++) {
            for (int i = 0; i < free.length; i++) {
                result[i] = result[i].plus(matrix(n)[i][j].times(element[j]));
            }
        }
        return result;
    }

    Q[][] matrix(int n) {
        if (matrices[n] == null) {
            Q[][] m = new Q[free.length][free.length];
            for (int j = 0; j < free.length; j++) {
                Q[] column = imageOfSymbol(n, pairs.get(free[j]));
                for (int i = 0; i < free.length; i++) {
                    m[i][j] = column[i];
                }
            }
            matrices[n] = m;
        }
        return matrices[n];
    }

    private Q[] imageOfSymbol(int n, int[] uv) {
        Q[] result = zeros(free.length);
        for (int a = 0; a <= 8; a++) {
            for (int b = 0; b < a; b++) {
                for (int d = 0; d <= 8; d++) {
                    for (int c = 0; c < d; c++) {
                        int s = a * d - b * c == n ? pair(uv[0] * a + uv[1] * c, uv[0] * b + uv[1] * d) : -1;
                        for (int i = 0; s >= 0 && i < free.length; i++) {
                            result[i] = result[i].plus(coordinates[s][i]);
                        }
                    }
                }
            }
        }
        return result;
    }

    /** A basis of the cuspidal elements, one a row. */
    Q[][] cuspidalBasis() {
        int n = free.length;
        Q[][] rows = new Q[n][];
        for (int i = 0; i < n; i++) {
            Q[] unit = zeros(n);
            unit[i] = Q.ONE;
            Q[] edge = boundary(unit);
            rows[i] = java.util.Arrays.copyOf(edge, cusps + n);
            System.arraycopy(unit, 0, rows[i], cusps, n);
        }
        int top = 0;
        for (int c = 0; c < cusps; c++) {
            if (clearColumn(rows, top, c)) {
                top++;
            }
        }
        Q[][] basis = new Q[n - top][];
        for (int k = top; k < n; k++) {
            basis[k - top] = java.util.Arrays.copyOfRange(rows[k], cusps, cusps + n);
        }
        return basis;
    }

    /** The matrix of operator n on the basis of the cuspidal elements. */
    Q[][] cuspidalMatrix(int n) {
        if (cuspidals[n] == null) {
            Q[][] basis = cuspidalBasis();
            int g = basis.length;
            Q[][] rows = new Q[free.length][2 * g];
            for (int k = 0; k < g; k++) {
                Q[] image = image(n, basis[k]);
                for (int i = 0; i < free.length; i++) {
                    rows[i][k] = basis[k][i];
                    rows[i][g + k] = image[i];
                }
            }
            for (int k = 0; k < g; k++) {
                if (!clearColumn(rows, k, k)) {
                    throw new IllegalStateException("no basis");
                }
            }
            Q[][] result = new Q[g][];
            for (int i = 0; i < g; i++) {
                result[i] = java.util.Arrays.copyOfRange(rows[i], g, 2 * g);
            }
            cuspidals[n] = result;
        }
        return cuspidals[n];
    }

    Q[] polynomial(int n, int what) {
        if (polynomials[n][what] == null) {
            polynomials[n][what] = interpolated(what == 0 ? matrix(n) : cuspidalMatrix(n));
        }
        return polynomials[n][what];
    }

    /** The characteristic polynomial by its values at 0, 1, ..., size (Lagrange). */
    private static Q[] interpolated(Q[][] matrix) {
        int size = matrix.length;
        Q[] result = zeros(size + 1);
        for (int x = 0; x <= size; x++) {
            Q[] basis = zeros(size + 1);
            basis[0] = Q.ONE;
            Q scale = determinantAt(matrix, x);
            for (int y = 0; y <= size; y++) {
                if (y != x) {
                    for (int k = size; k >= 0; k--) {
                        Q lower = k > 0 ? basis[k - 1] : Q.ZERO;
                        basis[k] = lower.minus(basis[k].times(Q.of(y)));
                    }
                    scale = scale.over(Q.of(x - y));
                }
            }
            for (int k = 0; k <= size; k++) {
                result[k] = result[k].plus(scale.times(basis[k]));
            }
        }
        return result;
    }

    private static Q determinantAt(Q[][] matrix, int x) {
        int size = matrix.length;
        Q[][] m = new Q[size][size];
        for (int i = 0; i < size; i++) {
            for (int j = 0; j < size; j++) {
                m[i][j] = Q.of(i == j ? x : 0).minus(matrix[i][j]);
            }
        }
        Q result = Q.ONE;
        for (int c = 0; c < size; c++) {
            int r = c;
            while (r < size && m[r][c].isZero()) {
                r++;
            }
            if (r == size) {
                return Q.ZERO;
            }
            if (r != c) {
                Q[] other = m[r];
                m[r] = m[c];
                m[c] = other;
                result = result.times(Q.of(-1));
            }
            result = result.times(m[c][c]);
            for (int q = c + 1; q < size; q++) {
                Q factor = m[q][c].over(m[c][c]);
                for (int k = c; k < size; k++) {
                    m[q][k] = m[q][k].minus(factor.times(m[c][k]));
                }
            }
        }
        return result;
    }
}
