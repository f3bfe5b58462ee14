import java.math.BigInteger;
import java.util.ArrayList;
import java.util.List;

/** The sentences of the document that name a boundary case, beside those of texts and kept states: a test for each. */
public final class EdgesTest {
    private static final int NONE = -1, BAD = -2, NO = -3;
    private static final long RANGE = Starts.RANGE;
    private static final Due DUE = new Due("EdgesTest");

    public static void main(String[] args) {
        errorCodes();
        countedHowOften();
        zeroIsZeroOverOne();
        levelsFromOneTo25();
        levelOneHasOnePair();
        pairsModuloTheLevel();
        noSymbolForCommonDivisors();
        freeSymbolsInOrder();
        boundaryOfClosedSymbols();
        spaceWithoutCoordinates();
        genusZero();
        operatorsCoprimeToTheLevel();
        operatorOneChangesNothing();
        beyondTheDegree();
        rootsAtBothEnds();
        formulasAtBothEnds();
        emptyProducts();
        fourAndNineDivide();
        pathsToWholeNumbers();
        pathsWithTwoTerms();
        longestPath();
        pathsNotInLowestTerms();
        rangeOfEachCoordinate();
        rangeAfterAnOperator();
        rangeWithinAPath();
        boundaryBeyondTheRange();
        coordinatesThatAreNotZero();
        digestWrapsAround();
        digestChangesNothing();
        the512thCall();
        DUE.end();
    }

    private static int[] freeSymbols(PairSymbols x) {
        int[] free = new int[Ranges.dimension(x.told(4))];
        for (int s = 0; s < x.symbols(); s++) {
            int number = x.symbol(s, 6);
            if (number != NONE) {
                free[number] = s;
            }
        }
        return free;
    }

    private static void errorCodes() {
        DUE.is("NONE", PairSymbols.NONE, -1);
        DUE.is("BAD", PairSymbols.BAD, -2);
        DUE.is("NO", PairSymbols.NO, -3);
        DUE.is("FULL", PairSymbols.FULL, -4);
    }

    /** "It is counted how often each of the three occurred, also in queries" */
    private static void countedHowOften() {
        PairSymbols x = Starts.at(2);
        for (int k = 1; k <= 100; k++) {
            x.told(6);
            x.trace(2, 0);
        }
        for (int k = 1; k <= 120; k++) {
            x.type(0);
        }
        for (int k = 1; k <= 100; k++) {
            x.type(0);
        }
        DUE.is("told(0)", x.told(0), 100);
        DUE.is("told(1)", x.told(1), 100);
        DUE.is("told(2)", x.told(2), 100);
        x.back();
        DUE.is("told(0) stays", x.told(0), 100);
        DUE.is("told(1) stays", x.told(1), 100);
    }

    /** "0 is 0/1" */
    private static void zeroIsZeroOverOne() {
        PairSymbols x = Starts.at(12);
        for (int i = 0; i < 5; i++) {
            DUE.is("sum(" + i + ", 0)", x.sum(i, 0), 0);
            DUE.is("sum(" + i + ", 1)", x.sum(i, 1), 1);
        }
        for (int cusp = 0; cusp < 6; cusp++) {
            DUE.is("boundary(" + cusp + ", 0)", x.boundary(cusp, 0), 0);
            DUE.is("boundary(" + cusp + ", 1)", x.boundary(cusp, 1), 1);
        }
        DUE.is("fraction(0, 1, 0)", x.fraction(0, 1, 0), 0);
        DUE.is("fraction(0, 1, 1)", x.fraction(0, 1, 1), 1);
        DUE.is("table(5, 0, 1, 0)", x.table(5, 0, 1, 0), 0);
        DUE.is("table(5, 0, 1, 1)", x.table(5, 0, 1, 1), 1);
    }

    /** "The level N is 1 to 25, and 11 at first." "Returns the previous level" "the sum becomes 0" */
    private static void levelsFromOneTo25() {
        PairSymbols x = new PairSymbols();
        int before = 11;
        int[] levels = {1, 25, 2, 24, 25, 1, 1, 25, 25};
        for (int n : levels) {
            x.adds(0, 3);
            DUE.is("level(" + n + ")", x.level(n), before);
            DUE.is("told(4)", x.told(4), n);
            DUE.is("symbols()", x.symbols(), Ranges.symbols(n));
            for (int i = 0; i < Ranges.dimension(n); i++) {
                DUE.is("sum(" + i + ", 0) then", x.sum(i, 0), 0);
            }
            before = n;
        }
        DUE.is("level(0)", x.level(0), BAD);
        DUE.is("level(26)", x.level(26), BAD);
        DUE.is("told(4) then", x.told(4), 25);
        DUE.is("told(0) then", x.told(0), 2);
    }

    /** "For N = 1 there is only the pair (0 : 0)." */
    private static void levelOneHasOnePair() {
        PairSymbols x = Starts.at(1);
        DUE.is("symbols()", x.symbols(), 1);
        int[] numbers = {-9999, -1, 0, 1, 9999};
        for (int c : numbers) {
            for (int d : numbers) {
                DUE.is("pair(" + c + ", " + d + ")", x.pair(c, d), 0);
            }
        }
        for (int what = 0; what <= 5; what++) {
            DUE.is("symbol(0, " + what + ")", x.symbol(0, what), 0);
        }
        DUE.is("symbol(0, 6)", x.symbol(0, 6), NONE);
        DUE.is("symbol(1, 0)", x.symbol(1, 0), BAD);
        DUE.is("adds(0, 999)", x.adds(0, 999), 0);
        DUE.is("adds(0, -999)", x.adds(0, -999), 0);
        DUE.is("adds(1, 1)", x.adds(1, 1), BAD);
        DUE.is("walks(55, 89)", x.walks(55, 89), 0);
        for (int n = 1; n <= 7; n++) {
            DUE.is("applies(" + n + ")", x.applies(n), 0);
        }
        DUE.is("cuspidal()", x.cuspidal(), 1);
    }

    /** "(c modulo N : d modulo N), where both are 0 to N - 1": below 0 too, and at both ends of the range. */
    private static void pairsModuloTheLevel() {
        for (int n = 1; n <= 25; n++) {
            PairSymbols x = Starts.at(n);
            int most = 9999 % n;
            int least = (n - most) % n;
            for (int d = 0; d < n; d++) {
                DUE.is("pair(9999, " + d + ") at " + n, x.pair(9999, d), x.pair(most, d));
                DUE.is("pair(-9999, " + d + ") at " + n, x.pair(-9999, d), x.pair(least, d));
                DUE.is("pair(" + d + ", 9999) at " + n, x.pair(d, 9999), x.pair(d, most));
                DUE.is("pair(" + d + ", -9999) at " + n, x.pair(d, -9999), x.pair(d, least));
                DUE.is("pair(-n, d) at " + n, x.pair(-n, d), x.pair(0, d));
                DUE.is("pair(n, -d) at " + n, x.pair(n, -d), x.pair(0, (n - d) % n));
            }
            DUE.is("pair(-1, -1) at " + n, x.pair(-1, -1), x.pair(1, 1));
            DUE.is("told(0) at " + n, x.told(0), 0);
        }
        PairSymbols x = new PairSymbols();
        DUE.is("pair(-1, 0) is (10 : 0), so (1 : 0)", x.pair(-1, 0), 1);
        DUE.is("pair(-1, 1) is (10 : 1), so (1 : 10)", x.pair(-1, 1), 11);
        DUE.is("pair(0, -9999) is (0 : 0)", x.pair(0, -9999), NONE);
        DUE.is("pair(0, -9998) is (0 : 1)", x.pair(0, -9998), 0);
    }

    /** "if a number above 1 divides c, d and N, there is no such symbol" */
    private static void noSymbolForCommonDivisors() {
        for (int n = 1; n <= 25; n++) {
            int most = 0;
            PairSymbols x = Starts.at(n);
            for (int c = 0; c < n; c++) {
                for (int d = 0; d < n; d++) {
                    if ((c * n + d) % 500 == 499) {
                        x = Starts.at(n);
                    }
                    boolean exists = true;
                    for (int k = 2; k <= n; k++) {
                        exists &= c % k != 0 || d % k != 0 || n % k != 0;
                    }
                    int s = x.pair(c, d);
                    boolean found = s >= 0 && s < Ranges.symbols(n);
                    DUE.holds("pair(" + c + ", " + d + ") at " + n, exists ? found : s == NONE);
                    most = Math.max(most, s + 1);
                }
            }
            DUE.is("symbols that pairs lead to at " + n, most, Ranges.symbols(n));
        }
    }

    /** "they are numbered from 0 in the order of the symbols", NONE elsewhere; a free symbol is its own coordinate. */
    private static void freeSymbolsInOrder() {
        for (int n = 1; n <= 25; n++) {
            PairSymbols x = Starts.at(n);
            int next = 0;
            for (int s = 0; s < Ranges.symbols(n); s++) {
                int number = x.symbol(s, 6);
                if (number == NONE) {
                    continue;
                }
                DUE.is("symbol(" + s + ", 6) at " + n, number, next);
                for (int i = 0; i < Ranges.dimension(n); i++) {
                    DUE.is("fraction(" + s + ", " + i + ", 0) at " + n, x.fraction(s, i, 0), i == next ? 1 : 0);
                }
                next++;
            }
            DUE.is("free symbols at " + n, next, Ranges.dimension(n));
            DUE.is("NONE is not counted", x.told(0), 0);
        }
    }

    /** "(so 0 if both are the same)" */
    private static void boundaryOfClosedSymbols() {
        for (int n = 2; n <= 25; n++) {
            PairSymbols x = Starts.at(n);
            int closed = 0;
            for (int s : freeSymbols(x)) {
                int ahead = x.symbol(s, 5);
                int behind = x.symbol(x.symbol(s, 2), 5);
                closed += ahead == behind ? 1 : 0;
                x.adds(s, 9);
                for (int cusp = 0; cusp < Ranges.cusps(n); cusp++) {
                    int due = (cusp == ahead ? 9 : 0) - (cusp == behind ? 9 : 0);
                    DUE.is("boundary(" + cusp + ", 0) of " + s + " at " + n, x.boundary(cusp, 0), due);
                }
                DUE.is("cuspidal() of " + s + " at " + n, x.cuspidal(), ahead == behind ? 1 : 0);
                x.back();
            }
            DUE.is("space(3) at " + n, x.space(3), closed);
        }
        DUE.is("space(3) at 1", Starts.at(1).space(3), 0);
    }

    /** At level 1 the dimension is 0: there is no coordinate, but each operator and its polynomial, which is 1. */
    private static void spaceWithoutCoordinates() {
        PairSymbols x = Starts.at(1);
        DUE.is("space(0)", x.space(0), 0);
        DUE.is("space(1)", x.space(1), 1);
        DUE.is("space(2)", x.space(2), 0);
        DUE.is("fraction(0, 0, 0)", x.fraction(0, 0, 0), BAD);
        DUE.is("table(1, 0, 0, 0)", x.table(1, 0, 0, 0), BAD);
        DUE.is("sum(0, 0)", x.sum(0, 0), Long.MIN_VALUE);
        DUE.is("told(0)", x.told(0), 3);
        for (int n = 1; n <= 7; n++) {
            for (int what = 0; what <= 1; what++) {
                DUE.is("trace(" + n + ", " + what + ")", x.trace(n, what), 0);
                DUE.is("polynomial(" + n + ", " + what + ", 0)", x.polynomial(n, what, 0), 1);
                DUE.is("polynomial(" + n + ", " + what + ", 1)", x.polynomial(n, what, 1), 0);
            }
            DUE.is("root(" + n + ", 0)", x.root(n, 0), 0);
        }
        DUE.is("boundary(0, 0)", x.boundary(0, 0), 0);
        DUE.is("boundary(1, 0)", x.boundary(1, 0), Long.MIN_VALUE);
    }

    /** Where the genus is 0, the cuspidal polynomial is 1 and has no root. */
    private static void genusZero() {
        int[] levels = {2, 3, 4, 5, 6, 7, 8, 9, 10, 12, 13, 16, 18, 25};
        for (int level : levels) {
            PairSymbols x = Starts.at(level);
            DUE.is("space(2) at " + level, x.space(2), 0);
            DUE.is("trace(1, 1) at " + level, x.trace(1, 1), 0);
            DUE.is("polynomial(1, 1, 0) at " + level, x.polynomial(1, 1, 0), 1);
            DUE.is("polynomial(1, 1, 1) at " + level, x.polynomial(1, 1, 1), 0);
            for (int v = -8; v <= 8; v++) {
                DUE.is("root(1, " + v + ") at " + level, x.root(1, v), 0);
            }
        }
    }

    /** "with n from 1 to 7 and coprime to N" */
    private static void operatorsCoprimeToTheLevel() {
        for (int level = 1; level <= 25; level++) {
            PairSymbols x = Starts.at(level);
            int refused = 0;
            for (int n = 1; n <= 7; n++) {
                boolean there = Ranges.coprime(n, level);
                refused += there ? 0 : 1;
                DUE.is("applies(" + n + ") at " + level, x.applies(n), there ? 0 : NO);
                DUE.holds("trace(" + n + ", 0) at " + level, (x.trace(n, 0) != -9998) == there);
                DUE.holds("polynomial at " + level, (x.polynomial(n, 1, 0) != Long.MIN_VALUE + 1) == there);
                DUE.holds("root at " + level, (x.root(n, 8) != NO) == there);
                if (level > 1) {
                    DUE.is("table(" + n + ", 0, 0, 1) at " + level, x.table(n, 0, 0, 1), there ? 1 : NO);
                }
            }
            DUE.is("told(1) at " + level, x.told(1), refused * (level > 1 ? 5 : 4));
            DUE.is("told(0) at " + level, x.told(0), 0);
        }
    }

    private static void operatorOneChangesNothing() {
        for (int level = 2; level <= 25; level++) {
            PairSymbols x = Starts.at(level);
            int dimension = Ranges.dimension(level);
            for (int i = 0; i < dimension; i++) {
                for (int j = 0; j < dimension; j++) {
                    DUE.is("table(1, " + i + ", " + j + ", 0) at " + level, x.table(1, i, j, 0), i == j ? 1 : 0);
                }
            }
            DUE.is("trace(1, 0) at " + level, x.trace(1, 0), dimension);
            DUE.is("trace(1, 1) at " + level, x.trace(1, 1), 2 * x.space(2));
            DUE.is("root(1, 1) at " + level, x.root(1, 1), 2 * x.space(2));
            DUE.is("root(1, 0) at " + level, x.root(1, 0), 0);
        }
    }

    /** "0 if k is greater than the degree" */
    private static void beyondTheDegree() {
        for (int level = 1; level <= 25; level++) {
            PairSymbols x = Starts.at(level);
            int[] degrees = {Ranges.dimension(level), 2 * x.space(2)};
            for (int what = 0; what <= 1; what++) {
                int degree = degrees[what];
                DUE.is("leading coefficient at " + level, x.polynomial(1, what, degree), 1);
                DUE.is("beyond the degree at " + level, x.polynomial(1, what, degree + 1), 0);
                DUE.is("far beyond the degree at " + level, x.polynomial(1, what, Integer.MAX_VALUE), 0);
                DUE.is("lowest coefficient at " + level, x.polynomial(1, what, 0), degree % 2 == 0 ? 1 : -1);
                DUE.is("below 0 at " + level, x.polynomial(1, what, -1), Long.MIN_VALUE);
            }
            DUE.is("told(0) at " + level, x.told(0), 2);
        }
    }

    /** "the root, -8 to 8": at level 17, operator 7 has the root 4 twice, and none other. */
    private static void rootsAtBothEnds() {
        PairSymbols x = Starts.at(17);
        DUE.is("root(7, -9)", x.root(7, -9), BAD);
        for (int v = -8; v <= 8; v++) {
            DUE.is("root(7, " + v + ")", x.root(7, v), v == 4 ? 2 : 0);
        }
        DUE.is("root(7, 9)", x.root(7, 9), BAD);
        DUE.is("told(0)", x.told(0), 2);
    }

    /** "For M from 1 to 60" */
    private static void formulasAtBothEnds() {
        PairSymbols x = new PairSymbols();
        int[] one = {1, 1, 1, 1, 0, 0};
        int[] sixty = {144, 0, 0, 12, 7, 0};
        for (int what = 0; what <= 5; what++) {
            DUE.is("formula(1, " + what + ")", x.formula(1, what), one[what]);
            DUE.is("formula(60, " + what + ")", x.formula(60, what), sixty[what]);
            DUE.is("formula(0, " + what + ")", x.formula(0, what), BAD);
            DUE.is("formula(61, " + what + ")", x.formula(61, what), BAD);
        }
        DUE.is("formula(1, -1)", x.formula(1, -1), BAD);
        DUE.is("formula(60, 6)", x.formula(60, 6), BAD);
        DUE.is("told(0)", x.told(0), 14);
    }

    /** "Empty products are 1." */
    private static void emptyProducts() {
        PairSymbols x = new PairSymbols();
        DUE.is("index of 1", x.formula(1, 0), 1);
        DUE.is("e2 of 1", x.formula(1, 1), 1);
        DUE.is("e2 of 2, which has no odd prime", x.formula(2, 1), 1);
        DUE.is("e3 of 1", x.formula(1, 2), 1);
        DUE.is("e3 of 3, which has no other prime", x.formula(3, 2), 1);
        DUE.is("e3 of 2", x.formula(2, 2), 0);
        DUE.is("e2 of 3", x.formula(3, 1), 0);
    }

    /** "0 if 4 divides M" "0 if 9 divides M" */
    private static void fourAndNineDivide() {
        int[][] orderTwo = {{4, 0}, {5, 2}, {10, 2}, {20, 0}, {25, 2}, {50, 2}, {40, 0}, {52, 0}, {26, 2}, {6, 0},
            {34, 2}, {15, 0}, {58, 2}};
        int[][] orderThree = {{9, 0}, {7, 2}, {21, 2}, {27, 0}, {39, 2}, {49, 2}, {57, 2}, {18, 0}, {14, 0}, {54, 0},
            {45, 0}, {31, 2}};
        PairSymbols x = new PairSymbols();
        for (int[] due : orderTwo) {
            DUE.is("e2 of " + due[0], x.formula(due[0], 1), due[1]);
        }
        for (int[] due : orderThree) {
            DUE.is("e3 of " + due[0], x.formula(due[0], 2), due[1]);
        }
    }

    /** "until the rest is 0": a whole number has one term, and (0 : 1) + (-1 : 0) is 0. */
    private static void pathsToWholeNumbers() {
        int[][] paths = {{0, 1}, {0, 99}, {99, 1}, {99, 99}, {98, 49}, {1, 1}};
        for (int level = 1; level <= 25; level++) {
            PairSymbols x = Starts.at(level);
            for (int[] p : paths) {
                DUE.is("walks(" + p[0] + ", " + p[1] + ") at " + level, x.walks(p[0], p[1]), 0);
            }
            DUE.is("told(5) at " + level, x.told(5), 6);
        }
        PairSymbols x = new PairSymbols();
        int[][] wrong = {{-1, 1}, {100, 1}, {0, 0}, {0, 100}, {99, 0}, {99, 100}, {-1, 99}, {100, 99}};
        for (int[] w : wrong) {
            DUE.is("walks(" + w[0] + ", " + w[1] + ")", x.walks(w[0], w[1]), BAD);
        }
        DUE.is("told(0)", x.told(0), wrong.length);
    }

    private static void pathIs(int level, int a, int b, int[][] symbols) {
        PairSymbols x = Starts.at(level);
        PairSymbols y = Starts.at(level);
        long answer = x.walks(a, b);
        long expected = 0;
        for (int[] s : symbols) {
            expected = y.adds(y.pair(s[0], s[1]), 1);
        }
        String call = "walks(" + a + ", " + b + ") at " + level;
        DUE.is(call, answer, expected);
        for (int i = 0; i < Ranges.dimension(level); i++) {
            DUE.is(call + ", sum(" + i + ", 0)", x.sum(i, 0), y.sum(i, 0));
        }
    }

    /** The terms of 1/99 are 0, 99, those of 99/98 are 1, 98, and those of 98/99 are 0, 1, 98. */
    private static void pathsWithTwoTerms() {
        for (int level = 1; level <= 25; level++) {
            pathIs(level, 1, 99, new int[][] {{0, 1}, {-1, 0}, {99, 1}});
            pathIs(level, 99, 98, new int[][] {{0, 1}, {-1, 0}, {98, 1}});
            pathIs(level, 98, 99, new int[][] {{0, 1}, {-1, 0}, {1, 1}, {-99, 1}});
            pathIs(level, 1, 2, new int[][] {{0, 1}, {-1, 0}, {2, 1}});
        }
    }

    /** The terms of 55/89 are 0, then eight times 1, then 2. */
    private static void longestPath() {
        int[][] symbols = {{0, 1}, {-1, 0}, {1, 1}, {-2, 1}, {3, 2}, {-5, 3}, {8, 5}, {-13, 8}, {21, 13}, {-34, 21},
            {89, 34}};
        for (int level = 1; level <= 25; level++) {
            pathIs(level, 55, 89, symbols);
        }
    }

    private static void pathsNotInLowestTerms() {
        for (int level = 2; level <= 25; level++) {
            pathIs(level, 33, 99, new int[][] {{0, 1}, {-1, 0}, {3, 1}});
            pathIs(level, 36, 90, new int[][] {{0, 1}, {-1, 0}, {2, 1}, {-5, 2}});
        }
    }

    /** At these levels operator 7 multiplies every element by 8, so each coordinate can be led to its ends. */
    private static PairSymbols grown(int level, long... goals) {
        PairSymbols x = Starts.at(level);
        int[] free = freeSymbols(x);
        for (int place = 13; place >= 0; place--) {
            x.applies(7);
            for (int i = 0; i < goals.length; i++) {
                int digit = (int) (Math.abs(goals[i]) >> 3 * place & 7);
                if (digit != 0) {
                    x.adds(free[i], Long.signum(goals[i]) * digit);
                }
            }
        }
        for (int i = 0; i < goals.length; i++) {
            DUE.is("grown coordinate " + i + " at " + level, x.sum(i, 0), goals[i]);
        }
        return x;
    }

    /** "The numerators of its coordinates are always from -1000000000000 to 1000000000000" */
    private static void rangeOfEachCoordinate() {
        int[] levels = {2, 6, 12, 18};
        for (int level : levels) {
            int dimension = Ranges.dimension(level);
            for (int i = 0; i < dimension; i++) {
                for (int sign = -1; sign <= 1; sign += 2) {
                    long[] goals = new long[dimension];
                    goals[i] = sign * RANGE;
                    addsAtTheEnd(grown(level, goals), level, i, sign);
                }
            }
        }
    }

    /** A symbol can be added there unless it leads this coordinate further out. */
    private static void addsAtTheEnd(PairSymbols x, int level, int i, int sign) {
        int refused = 0;
        for (int s = 0; s < Ranges.symbols(level); s++) {
            long part = x.fraction(s, i, 0);
            long answer = x.adds(s, 1);
            String call = "adds(" + s + ", 1) at " + level + " with " + sign + " 10^12 at " + i;
            if (part == sign) {
                refused++;
                DUE.is(call, answer, NO);
                DUE.is(call + ", told(1)", x.told(1), refused);
            } else {
                DUE.holds(call, answer >= 0);
                DUE.is(call + ", the sum", x.sum(i, 0), sign * RANGE + part);
                x.back();
            }
            DUE.is(call + ", the sum at last", x.sum(i, 0), sign * RANGE);
        }
        DUE.holds("one was refused at " + level, refused > 0);
    }

    /** Operator 7 leads 10^12 / 8 to the end of the range, and one more beyond it. */
    private static void rangeAfterAnOperator() {
        for (int sign = -1; sign <= 1; sign += 2) {
            PairSymbols x = grown(12, 0, 0, sign * RANGE / 8, 0, 5);
            DUE.is("applies(7) up to the end", x.applies(7), 2);
            DUE.is("sum(2, 0)", x.sum(2, 0), sign * RANGE);
            DUE.is("sum(4, 0)", x.sum(4, 0), 40);
            DUE.is("applies(7) once more", x.applies(7), NO);
            DUE.is("applies(1) at the end", x.applies(1), 2);
            x = grown(12, 0, 0, sign * (RANGE / 8 + 1), 0, 5);
            DUE.is("applies(7) beyond the end", x.applies(7), NO);
            DUE.is("sum(2, 0)", x.sum(2, 0), sign * (RANGE / 8 + 1));
            DUE.is("sum(4, 0)", x.sum(4, 0), 5);
            DUE.is("told(1)", x.told(1), 1);
            x = grown(6, 0, 0, sign * RANGE);
            DUE.is("the last coordinate alone is beyond", x.applies(7), NO);
            x = grown(6, sign * RANGE, 0, 0);
            DUE.is("the first coordinate alone is beyond", x.applies(7), NO);
        }
    }

    /** A path is one change: only its result counts, not the sum between its terms. */
    private static void rangeWithinAPath() {
        PairSymbols x = Starts.grown(RANGE);
        DUE.is("walks(0, 1), which adds 1 and then -1", x.walks(0, 1), 1);
        DUE.is("sum(0, 0)", x.sum(0, 0), RANGE);
        DUE.is("walks(1, 3), which adds 1", x.walks(1, 3), NO);
        DUE.is("sum(0, 0)", x.sum(0, 0), RANGE);
        x.adds(0, -1);
        DUE.is("walks(1, 3) up to the end", x.walks(1, 3), 1);
        DUE.is("sum(0, 0)", x.sum(0, 0), RANGE);
    }

    /** The document gives no range for the boundary: several coordinates at their ends add up there. */
    private static void boundaryBeyondTheRange() {
        for (int cusp = 0; cusp < 6; cusp++) {
            PairSymbols probe = Starts.at(12);
            long[] goals = new long[5];
            int edges = 0;
            int[] free = freeSymbols(probe);
            for (int j = 0; j < 5; j++) {
                int ahead = probe.symbol(free[j], 5) == cusp ? 1 : 0;
                int behind = probe.symbol(probe.symbol(free[j], 2), 5) == cusp ? 1 : 0;
                goals[j] = (ahead - behind) * RANGE;
                edges += Math.abs(ahead - behind);
            }
            PairSymbols x = grown(12, goals);
            DUE.is("boundary(" + cusp + ", 0)", x.boundary(cusp, 0), edges * RANGE);
            DUE.is("boundary(" + cusp + ", 1)", x.boundary(cusp, 1), 1);
            DUE.is("cuspidal()", x.cuspidal(), 0);
        }
    }

    /** "Returns how many coordinates of the sum are not 0 then": from none to all nine of level 24, and back. */
    private static void coordinatesThatAreNotZero() {
        PairSymbols x = Starts.at(24);
        int[] free = freeSymbols(x);
        for (int i = 0; i < 9; i++) {
            DUE.is("adds() of free symbol " + i, x.adds(free[i], i % 2 == 0 ? 999 : -999), i + 1);
        }
        DUE.is("applies(1)", x.applies(1), 9);
        for (int i = 0; i < 9; i++) {
            DUE.is("adds() to 0 again", x.adds(free[i], i % 2 == 0 ? -999 : 999), 8 - i);
        }
        DUE.is("applies(5) to 0", x.applies(5), 0);
    }

    private static void numbered(List<Long> numbers, long... more) {
        for (long number : more) {
            numbers.add(number);
        }
    }

    /** "in long arithmetic with overflow": the exact number is far beyond long, and its lowest 64 bits are due. */
    private static void hashed(String when, PairSymbols x, List<Long> numbers) {
        BigInteger h = BigInteger.valueOf(2297);
        for (long number : numbers) {
            h = h.multiply(BigInteger.valueOf(31)).add(BigInteger.valueOf(number));
        }
        DUE.holds(when + ": beyond long", h.bitLength() > 64);
        DUE.is(when, x.digest(), h.longValue());
    }

    private static void digestWrapsAround() {
        List<Long> numbers = new ArrayList<>();
        numbered(numbers, 0, 0, 0, 0, 11, 0, 12, 3, 2, 1, 0, 1, 0, 1, 0, 1, 1);
        hashed("digest() of a new object", new PairSymbols(), numbers);
        PairSymbols x = grown(18, RANGE, -RANGE, RANGE, -RANGE, RANGE, -RANGE, RANGE);
        x.told(-1);
        x.told(6);
        x.applies(2);
        numbers.clear();
        numbered(numbers, 2, 1, 0, 0, 18, 6, 36, 7, 8, 0);
        for (int i = 0; i < 7; i++) {
            numbered(numbers, i % 2 == 0 ? RANGE : -RANGE, 1);
        }
        numbered(numbers, x.cuspidal());
        hashed("digest() at the ends of the range", x, numbers);
        x = Starts.at(1);
        for (int k = 0; k < 121; k++) {
            x.type(127);
        }
        numbers.clear();
        numbered(numbers, 0, 0, 1, 120, 1, 1, 1, 0, 1, 0, 1);
        hashed("digest() without a coordinate", x, numbers);
        x = Starts.at(24);
        numbers.clear();
        numbered(numbers, 0, 0, 0, 0, 24, 1, 48, 9, 8, 1);
        for (int i = 0; i < 9; i++) {
            numbered(numbers, 0, 1);
        }
        numbered(numbers, 1);
        hashed("digest() with the most coordinates", x, numbers);
    }

    /** digest() asks other calls only for what they return without an error. */
    private static void digestChangesNothing() {
        for (int level = 1; level <= 25; level++) {
            PairSymbols x = Starts.at(level);
            x.adds(0, 2);
            long first = x.digest();
            DUE.is("digest() again at " + level, x.digest(), first);
            DUE.is("told(0) then", x.told(0), 0);
            DUE.is("told(1) then", x.told(1), 0);
            DUE.is("told(5) then", x.told(5), 2);
            x.adds(0, 0);
            DUE.holds("digest() tells the kept states at " + level, x.digest() != first);
        }
    }

    /** "An object is used for at most 512 calls after it has been made": the last one answers as the first. */
    private static void the512thCall() {
        PairSymbols x = new PairSymbols();
        for (int k = 1; k <= 511; k++) {
            DUE.is("call " + k, x.told(-k), BAD);
        }
        DUE.is("call 512", x.told(0), 511);
        x = new PairSymbols();
        for (int k = 1; k <= 511; k++) {
            DUE.is("call " + k, x.adds(0, 999), 1);
        }
        DUE.is("call 512", x.sum(0, 0), 511 * 999);
        x = new PairSymbols();
        for (int k = 1; k <= 512; k++) {
            DUE.is("call " + k, x.back(), NO);
        }
    }
}
