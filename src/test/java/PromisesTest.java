/** The document's promises one after the other, with answers written out by hand. */
public final class PromisesTest {
    private static final int BAD = -2, NO = -3, FULL = -4, NONE = -1;
    private static final int LEAST = Integer.MIN_VALUE, MOST = Integer.MAX_VALUE;
    private static final long RANGE = Starts.RANGE;
    private static final Due DUE = new Due("PromisesTest");

    public static void main(String[] args) {
        newObject();
        level();
        symbols();
        symbol();
        pair();
        space();
        fraction();
        table();
        trace();
        polynomial();
        root();
        formula();
        adds();
        applies();
        walks();
        sum();
        rangeOfTheSum();
        boundary();
        cuspidal();
        type();
        clear();
        reads();
        faults();
        back();
        told();
        digest();
        DUE.end();
    }

    private static PairSymbols at(int level) {
        return Starts.at(level);
    }

    private static PairSymbols typed(PairSymbols x, String text) {
        Starts.type(x, text);
        return x;
    }

    /** Errors counted so far: BAD, NO and FULL. */
    private static void counted(String when, PairSymbols x, int bad, int no, int full) {
        DUE.is(when + ", told(0)", x.told(0), bad);
        DUE.is(when + ", told(1)", x.told(1), no);
        DUE.is(when + ", told(2)", x.told(2), full);
    }

    private static void sums(String when, PairSymbols x, long... row) {
        for (int i = 0; i < row.length; i++) {
            DUE.is(when + ", sum(" + i + ", 0)", x.sum(i, 0), row[i]);
            DUE.is(when + ", sum(" + i + ", 1)", x.sum(i, 1), 1);
        }
        DUE.is(when + ", dimension", x.space(0), row.length);
    }

    private static void newObject() {
        PairSymbols x = new PairSymbols();
        counted("new object", x, 0, 0, 0);
        DUE.is("new object, told(3)", x.told(3), 0);
        DUE.is("new object, told(4)", x.told(4), 11);
        DUE.is("new object, told(5)", x.told(5), 0);
        sums("new object", x, 0, 0, 0);
        DUE.is("new object, cuspidal()", x.cuspidal(), 1);
        DUE.is("new object, reads()", x.reads(), -10);
        DUE.is("new object, clear()", x.clear(), 0);
        DUE.is("new object, back()", x.back(), NO);
        PairSymbols other = new PairSymbols();
        other.level(5);
        DUE.is("two objects share nothing", x.told(4), 11);
    }

    private static void level() {
        PairSymbols x = new PairSymbols();
        DUE.is("level(1)", x.level(1), 11);
        DUE.is("level(25)", x.level(25), 1);
        DUE.is("level(25) again", x.level(25), 25);
        int[] wrong = {0, 26, -1, -25, LEAST, MOST};
        for (int n : wrong) {
            DUE.is("level(" + n + ")", x.level(n), BAD);
        }
        DUE.is("level after wrong ones", x.told(4), 25);
        counted("level", x, wrong.length, 0, 0);
        DUE.is("states kept by level", x.told(5), 3);
        x.adds(0, 5);
        DUE.is("the same level", x.level(25), 25);
        sums("the same level", x, 0, 0, 0, 0, 0);
        DUE.is("back() to before the same level", x.back(), 4);
        sums("back to before the same level", x, 5, 0, 0, 0, 0);
        DUE.is("a wrong level", x.level(26), BAD);
        sums("a wrong level keeps the sum", x, 5, 0, 0, 0, 0);
        DUE.is("a wrong level keeps no state", x.told(5), 4);
    }

    private static void symbols() {
        for (int n = 1; n <= 25; n++) {
            DUE.is("symbols() at " + n, at(n).symbols(), Ranges.symbols(n));
        }
    }

    private static void symbol() {
        PairSymbols x = new PairSymbols();
        int[] shifted = {0, 2, 3, 4, 5, 6, 7, 8, 9, 10, 11, 1};
        for (int s = 0; s < 12; s++) {
            DUE.is("symbol(" + s + ", 4)", x.symbol(s, 4), shifted[s]);
        }
        DUE.is("symbol(0, 6)", x.symbol(0, 6), 0);
        DUE.is("symbol(4, 6)", x.symbol(4, 6), 2);
        DUE.is("symbol(5, 6)", x.symbol(5, 6), NONE);
        counted("NONE is no error", x, 0, 0, 0);
        int[][] wrong = {{-1, 0}, {12, 0}, {LEAST, 0}, {MOST, 0}, {0, -1}, {0, 7}, {0, LEAST}, {0, MOST}, {12, 7}};
        for (int[] w : wrong) {
            DUE.is("symbol(" + w[0] + ", " + w[1] + ")", x.symbol(w[0], w[1]), BAD);
        }
        counted("symbol", x, wrong.length, 0, 0);
        levelSixSymbols();
        PairSymbols one = at(1);
        for (int what = 0; what <= 5; what++) {
            DUE.is("symbol(0, " + what + ") at 1", one.symbol(0, what), 0);
        }
        DUE.is("symbol(0, 6) at 1", one.symbol(0, 6), NONE);
        DUE.is("symbol(1, 0) at 1", one.symbol(1, 0), BAD);
    }

    /** At level 6 the numbers 1 and 5 are coprime to the level; the pairs are worked out by hand. */
    private static void levelSixSymbols() {
        PairSymbols x = at(6);
        int[][] pairs = {{0, 1}, {1, 0}, {1, 1}, {1, 2}, {1, 3}, {1, 4}, {1, 5}, {2, 1}, {2, 3}, {2, 5}, {3, 1},
            {3, 2}};
        int[] cusps = {0, 1, 1, 1, 1, 1, 1, 2, 2, 2, 3, 3};
        for (int s = 0; s < 12; s++) {
            DUE.is("c of " + s + " at 6", x.symbol(s, 0), pairs[s][0]);
            DUE.is("d of " + s + " at 6", x.symbol(s, 1), pairs[s][1]);
            DUE.is("cusp of " + s + " at 6", x.symbol(s, 5), cusps[s]);
        }
        DUE.is("S(2 : 1) = (-1 : 2) = (1 : 4)", x.symbol(7, 2), 5);
        DUE.is("R(2 : 1) = (3 : -2) = (3 : 2)", x.symbol(7, 3), 11);
        DUE.is("U(2 : 5) = (2 : 1)", x.symbol(9, 4), 7);
        DUE.is("U(3 : 2) = (3 : 5) = (3 : 1)", x.symbol(11, 4), 10);
    }

    private static void pair() {
        PairSymbols x = at(12);
        DUE.is("pair(0, 1)", x.pair(0, 1), 0);
        DUE.is("pair(0, -1)", x.pair(0, -1), 0);
        DUE.is("pair(1, 0)", x.pair(1, 0), 1);
        DUE.is("pair(13, 24)", x.pair(13, 24), 1);
        DUE.is("pair(5, 5)", x.pair(5, 5), 2);
        DUE.is("pair(0, 0)", x.pair(0, 0), NONE);
        DUE.is("pair(2, 4)", x.pair(2, 4), NONE);
        DUE.is("pair(3, 6)", x.pair(3, 6), NONE);
        DUE.is("pair(-9, 9)", x.pair(-9, 9), NONE);
        DUE.is("pair(12, 0)", x.pair(12, 0), NONE);
        DUE.is("pair(10, 5) = (2 : 1)", x.pair(10, 5), x.pair(2, 1));
        DUE.is("pair(9999, 1) = (3 : 1)", x.pair(9999, 1), x.pair(3, 1));
        DUE.is("pair(-9999, 1) = (9 : 1) = (3 : 7)", x.pair(-9999, 1), x.pair(3, 7));
        counted("NONE is no error", x, 0, 0, 0);
        int[][] wrong = {{10000, 0}, {-10000, 0}, {0, 10000}, {0, -10000}, {LEAST, 1}, {1, LEAST}, {MOST, MOST}};
        for (int[] w : wrong) {
            DUE.is("pair(" + w[0] + ", " + w[1] + ")", x.pair(w[0], w[1]), BAD);
        }
        counted("pair", x, wrong.length, 0, 0);
        DUE.is("pair(0, 0) at 1", at(1).pair(0, 0), 0);
        DUE.is("pair(-77, 35) at 1", at(1).pair(-77, 35), 0);
    }

    private static void space() {
        for (int n = 1; n <= 25; n++) {
            PairSymbols x = at(n);
            DUE.is("space(0) at " + n, x.space(0), Ranges.dimension(n));
            DUE.is("space(1) at " + n, x.space(1), Ranges.cusps(n));
            DUE.is("space(2) at " + n, x.space(2), Ranges.genus(n));
        }
        PairSymbols x = new PairSymbols();
        DUE.is("space(3)", x.space(3), 2);
        DUE.is("space(3) at 6", at(6).space(3), 0);
        int[] wrong = {-1, 4, LEAST, MOST};
        for (int what : wrong) {
            DUE.is("space(" + what + ")", x.space(what), BAD);
        }
        counted("space", x, wrong.length, 0, 0);
    }

    private static void fraction() {
        PairSymbols x = new PairSymbols();
        int[][] rows = {{1, 0, 0}, {-1, 0, 0}, {0, 0, 0}, {0, 1, 0}, {0, 0, 1}, {0, -1, 1}, {0, -1, 0}, {0, -1, 0},
            {0, 0, -1}, {0, 1, -1}, {0, 1, 0}, {0, 0, 0}};
        for (int s = 0; s < 12; s++) {
            for (int i = 0; i < 3; i++) {
                DUE.is("fraction(" + s + ", " + i + ", 0)", x.fraction(s, i, 0), rows[s][i]);
                DUE.is("fraction(" + s + ", " + i + ", 1)", x.fraction(s, i, 1), 1);
            }
        }
        int[][] wrong = {{-1, 0, 0}, {12, 0, 0}, {0, -1, 0}, {0, 3, 0}, {0, 0, -1}, {0, 0, 2}, {MOST, MOST, MOST}};
        for (int[] w : wrong) {
            DUE.is("fraction(" + w[0] + ", " + w[1] + ", " + w[2] + ")", x.fraction(w[0], w[1], w[2]), BAD);
        }
        counted("fraction", x, wrong.length, 0, 0);
        DUE.is("fraction(0, 0, 0) at 1", at(1).fraction(0, 0, 0), BAD);
    }

    private static void table() {
        PairSymbols x = new PairSymbols();
        for (int i = 0; i < 3; i++) {
            for (int j = 0; j < 3; j++) {
                DUE.is("table(1, " + i + ", " + j + ", 0)", x.table(1, i, j, 0), i == j ? 1 : 0);
                DUE.is("table(1, " + i + ", " + j + ", 1)", x.table(1, i, j, 1), 1);
            }
        }
        int[][] second = {{3, 0, 0}, {1, -2, 0}, {0, 0, -2}};
        for (int i = 0; i < 3; i++) {
            for (int j = 0; j < 3; j++) {
                DUE.is("table(2, " + i + ", " + j + ", 0)", x.table(2, i, j, 0), second[i][j]);
            }
        }
        int[][] wrong = {{0, 0, 0, 0}, {8, 0, 0, 0}, {-1, 0, 0, 0}, {1, -1, 0, 0}, {1, 3, 0, 0}, {1, 0, -1, 0},
            {1, 0, 3, 0}, {1, 0, 0, -1}, {1, 0, 0, 2}, {LEAST, LEAST, MOST, MOST}};
        for (int[] w : wrong) {
            DUE.is("table(" + w[0] + ", " + w[1] + ", ..)", x.table(w[0], w[1], w[2], w[3]), BAD);
        }
        counted("table", x, wrong.length, 0, 0);
        PairSymbols y = at(12);
        DUE.is("table(4, 0, 0, 0) at 12", y.table(4, 0, 0, 0), NO);
        DUE.is("BAD comes before NO", y.table(4, 5, 0, 0), BAD);
        DUE.is("table(5, 4, 4, 1) at 12", y.table(5, 4, 4, 1), 1);
        counted("table at 12", y, 1, 1, 0);
    }

    /** The traces that tables of elliptic curves tell: twice the coefficient of the one form. */
    private static void trace() {
        int[][] known = {{11, 2, -2}, {11, 3, -1}, {11, 4, 2}, {11, 5, 1}, {11, 6, 2}, {11, 7, -2}, {14, 3, -2},
            {14, 5, 0}, {15, 2, -1}, {15, 4, -1}, {15, 7, 0}, {17, 2, -1}, {17, 3, 0}, {17, 5, -2}, {17, 7, 4},
            {19, 2, 0}, {19, 3, -2}, {19, 5, 3}, {19, 7, -1}, {20, 3, -2}, {20, 7, 2}, {21, 2, -1}, {21, 5, -2},
            {24, 5, -2}, {24, 7, 0}};
        for (int[] k : known) {
            DUE.is("trace(" + k[1] + ", 1) at " + k[0], at(k[0]).trace(k[1], 1), 2 * k[2]);
        }
        DUE.is("trace(1, 0) at 24", at(24).trace(1, 0), 9);
        DUE.is("trace(1, 1) at 24", at(24).trace(1, 1), 2);
        DUE.is("trace(7, 0) at 13", at(13).trace(7, 0), 8);
        DUE.is("trace(7, 1) at 13", at(13).trace(7, 1), 0);
        DUE.is("trace(2, 0) at 1", at(1).trace(2, 0), 0);
        PairSymbols x = at(6);
        int[][] wrong = {{0, 0}, {8, 0}, {1, -1}, {1, 2}, {2, 2}, {LEAST, 0}, {MOST, 1}};
        for (int[] w : wrong) {
            DUE.is("trace(" + w[0] + ", " + w[1] + ")", x.trace(w[0], w[1]), -9999);
        }
        int[] no = {2, 3, 4, 6};
        for (int n : no) {
            DUE.is("trace(" + n + ", 1) at 6", x.trace(n, 1), -9998);
        }
        counted("trace", x, wrong.length, no.length, 0);
    }

    private static void coefficients(PairSymbols x, int n, int what, long... due) {
        for (int k = 0; k < due.length; k++) {
            DUE.is("polynomial(" + n + ", " + what + ", " + k + ") at " + x.told(4), x.polynomial(n, what, k), due[k]);
        }
        DUE.is("beyond the degree", x.polynomial(n, what, due.length), 0);
        DUE.is("far beyond the degree", x.polynomial(n, what, MOST), 0);
    }

    private static void polynomial() {
        coefficients(new PairSymbols(), 1, 0, -1, 3, -3, 1);
        coefficients(new PairSymbols(), 1, 1, 1, -2, 1);
        coefficients(new PairSymbols(), 2, 0, -12, -8, 1, 1);
        coefficients(new PairSymbols(), 2, 1, 4, 4, 1);
        coefficients(at(23), 2, 1, 1, -2, -1, 2, 1);
        coefficients(at(23), 3, 1, 25, 0, -10, 0, 1);
        coefficients(at(22), 3, 1, 1, 4, 6, 4, 1);
        coefficients(at(22), 7, 1, 16, 32, 24, 8, 1);
        coefficients(at(13), 6, 0, -12, 1);
        coefficients(at(13), 6, 1, 1);
        coefficients(at(1), 7, 0, 1);
        PairSymbols x = at(10);
        int[][] wrong = {{0, 0, 0}, {8, 0, 0}, {1, -1, 0}, {1, 2, 0}, {1, 0, -1}, {1, 0, LEAST}, {5, 0, -1}};
        for (int[] w : wrong) {
            DUE.is("polynomial(" + w[0] + ", " + w[1] + ", " + w[2] + ")", x.polynomial(w[0], w[1], w[2]),
                    Long.MIN_VALUE);
        }
        int[] no = {2, 4, 5, 6};
        for (int n : no) {
            DUE.is("polynomial(" + n + ", 0, 0) at 10", x.polynomial(n, 0, 0), Long.MIN_VALUE + 1);
        }
        counted("polynomial", x, wrong.length, no.length, 0);
    }

    private static void root() {
        int[][] known = {{11, 2, -2, 2}, {11, 2, 3, 0}, {11, 1, 1, 2}, {22, 3, -1, 4}, {22, 5, 1, 4}, {22, 7, -2, 4},
            {24, 7, 0, 2}, {17, 7, 4, 2}, {23, 2, -1, 0}, {13, 2, 0, 0}, {13, 2, 3, 0}, {1, 2, 0, 0}, {11, 1, -8, 0},
            {11, 1, 8, 0}};
        for (int[] k : known) {
            DUE.is("root(" + k[1] + ", " + k[2] + ") at " + k[0], at(k[0]).root(k[1], k[2]), k[3]);
        }
        PairSymbols x = at(14);
        int[][] wrong = {{0, 0}, {8, 0}, {1, -9}, {1, 9}, {2, 9}, {LEAST, LEAST}, {3, MOST}};
        for (int[] w : wrong) {
            DUE.is("root(" + w[0] + ", " + w[1] + ")", x.root(w[0], w[1]), BAD);
        }
        int[] no = {2, 4, 6, 7};
        for (int n : no) {
            DUE.is("root(" + n + ", 0) at 14", x.root(n, 0), NO);
        }
        counted("root", x, wrong.length, no.length, 0);
    }

    private static void formula() {
        int[][] known = {{1, 1, 1, 1, 1, 0, 0}, {3, 4, 0, 1, 2, 0, 0}, {4, 6, 0, 0, 3, 0, 0}, {5, 6, 2, 0, 2, 0, 0},
            {7, 8, 0, 2, 2, 0, 0}, {8, 12, 0, 0, 4, 0, 0}, {9, 12, 0, 0, 4, 0, 0}, {13, 14, 2, 2, 2, 0, 0},
            {16, 24, 0, 0, 6, 0, 0}, {21, 32, 0, 2, 4, 1, 1}, {44, 72, 0, 0, 6, 4, 1}, {55, 72, 0, 0, 4, 5, 3},
            {59, 60, 0, 0, 2, 5, 5}, {60, 144, 0, 0, 12, 7, 0}};
        PairSymbols x = new PairSymbols();
        for (int[] k : known) {
            for (int what = 0; what <= 5; what++) {
                DUE.is("formula(" + k[0] + ", " + what + ")", x.formula(k[0], what), k[what + 1]);
            }
        }
        int[][] wrong = {{0, 0}, {61, 0}, {-1, 5}, {1, -1}, {1, 6}, {60, LEAST}, {MOST, MOST}};
        for (int[] w : wrong) {
            DUE.is("formula(" + w[0] + ", " + w[1] + ")", x.formula(w[0], w[1]), BAD);
        }
        counted("formula", x, wrong.length, 0, 0);
        for (int n = 1; n <= 25; n++) {
            DUE.is("index of " + n, x.formula(n, 0), Ranges.symbols(n));
            DUE.is("ends of " + n, x.formula(n, 3), Ranges.cusps(n));
            DUE.is("forms of " + n, x.formula(n, 4), Ranges.genus(n));
        }
    }

    private static void adds() {
        PairSymbols x = new PairSymbols();
        DUE.is("adds(5, 3)", x.adds(5, 3), 2);
        sums("adds(5, 3)", x, 0, -3, 3);
        DUE.is("adds(1, -999)", x.adds(1, -999), 3);
        sums("adds(1, -999)", x, 999, -3, 3);
        DUE.is("adds(2, 7), a symbol that is 0", x.adds(2, 7), 3);
        DUE.is("adds(3, 0)", x.adds(3, 0), 3);
        DUE.is("adds(0, -999)", x.adds(0, -999), 2);
        DUE.is("kept by adds, also where nothing changes", x.told(5), 5);
        int[][] wrong = {{-1, 1}, {12, 1}, {0, 1000}, {0, -1000}, {LEAST, 0}, {0, LEAST}, {MOST, MOST}};
        for (int[] w : wrong) {
            DUE.is("adds(" + w[0] + ", " + w[1] + ")", x.adds(w[0], w[1]), BAD);
        }
        counted("adds", x, wrong.length, 0, 0);
        DUE.is("kept after wrong adds", x.told(5), 5);
        sums("after wrong adds", x, 0, -3, 3);
    }

    private static void applies() {
        PairSymbols x = new PairSymbols();
        DUE.is("applies(7) to 0", x.applies(7), 0);
        x.adds(0, 1);
        DUE.is("applies(2)", x.applies(2), 2);
        sums("applies(2)", x, 3, 1, 0);
        DUE.is("applies(1)", x.applies(1), 2);
        sums("applies(1)", x, 3, 1, 0);
        DUE.is("kept by applies", x.told(5), 4);
        int[] wrong = {0, 8, -1, LEAST, MOST};
        for (int n : wrong) {
            DUE.is("applies(" + n + ")", x.applies(n), BAD);
        }
        DUE.is("kept after wrong applies", x.told(5), 4);
        x.level(21);
        x.adds(0, 1);
        DUE.is("applies(3) at 21", x.applies(3), NO);
        DUE.is("applies(7) at 21", x.applies(7), NO);
        DUE.is("applies(6) at 21", x.applies(6), NO);
        DUE.is("applies(8) at 21", x.applies(8), BAD);
        counted("applies", x, wrong.length + 1, 3, 0);
        sums("after wrong applies", x, 1, 0, 0, 0, 0);
    }

    private static void walks() {
        PairSymbols x = new PairSymbols();
        DUE.is("walks(0, 1)", x.walks(0, 1), 0);
        DUE.is("walks(99, 1)", x.walks(99, 1), 0);
        DUE.is("walks(1, 5)", x.walks(1, 5), 1);
        sums("walks(1, 5)", x, 0, 1, 0);
        DUE.is("walks(5, 25), the same number", x.walks(5, 25), 1);
        sums("walks(5, 25)", x, 0, 2, 0);
        DUE.is("walks(2, 5): (0:1) (-1:0) (2:1) (-5:2)", x.walks(2, 5), 1);
        sums("walks(2, 5)", x, 0, 0, 1);
        DUE.is("walks(1, 11)", x.walks(1, 11), 2);
        sums("walks(1, 11)", x, 1, 0, 1);
        DUE.is("kept by walks", x.told(5), 6);
        int[][] wrong = {{-1, 1}, {100, 1}, {0, 0}, {0, 100}, {0, -1}, {LEAST, LEAST}, {MOST, MOST}};
        for (int[] w : wrong) {
            DUE.is("walks(" + w[0] + ", " + w[1] + ")", x.walks(w[0], w[1]), BAD);
        }
        counted("walks", x, wrong.length, 0, 0);
        sums("after wrong walks", x, 1, 0, 1);
    }

    private static void sum() {
        PairSymbols x = at(14);
        x.adds(0, 1);
        x.adds(8, -4);
        sums("sum", x, 1, 0, 0, 0, -4);
        int[][] wrong = {{-1, 0}, {5, 0}, {0, -1}, {0, 2}, {LEAST, 0}, {MOST, MOST}};
        for (int[] w : wrong) {
            DUE.is("sum(" + w[0] + ", " + w[1] + ")", x.sum(w[0], w[1]), Long.MIN_VALUE);
        }
        counted("sum", x, wrong.length, 0, 0);
        DUE.is("sum(0, 1) at 1", at(1).sum(0, 1), Long.MIN_VALUE);
    }

    private static void rangeOfTheSum() {
        for (int sign = -1; sign <= 1; sign += 2) {
            PairSymbols x = Starts.grown(sign * RANGE);
            sums("at the edge of the range", x, sign * RANGE);
            counted("at the edge of the range", x, 0, 0, 0);
            DUE.is("adds one too many", x.adds(0, sign), NO);
            DUE.is("applies one too many", x.applies(2), NO);
            DUE.is("applies(1) at the edge", x.applies(1), 1);
            DUE.is("walks(0, 1) at the edge, which adds 1 and -1", x.walks(0, 1), 1);
            DUE.is("walks(1, 3) at the edge", x.walks(1, 3), sign > 0 ? NO : 1);
            sums("still at the edge", x, sign > 0 ? RANGE : -RANGE + 1);
            counted("at the edge of the range", x, 0, sign > 0 ? 3 : 2, 0);
            DUE.is("BAD comes before NO", x.adds(0, sign * 1000), BAD);
            DUE.is("kept", x.told(5), 6);
            DUE.is("adds away from the edge", x.adds(0, -sign * 999), 1);
            DUE.is("adds(1, ..) is minus adds(0, ..)", x.adds(1, -sign * 900), 1);
            typed(x, sign > 0 ? "+ 99 0;z;+ 1 0;" : "+ -101 0;z;+ 1 0;");
            DUE.is("reads up to the edge", x.reads(), sign > 0 ? 3 : -1000);
            x.back();
        }
        PairSymbols x = Starts.grown(RANGE / 8);
        DUE.is("applies(7) up to the edge", x.applies(7), 1);
        sums("applies(7) up to the edge", x, RANGE);
        x = Starts.grown(RANGE / 8 + 1);
        DUE.is("applies(7) beyond the edge", x.applies(7), NO);
        sums("applies(7) beyond the edge", x, RANGE / 8 + 1);
        DUE.is("a command beyond the edge", typed(x, "z; + 1 0; t 7; n 3;").reads(), 4);
        x.back();
        DUE.is("a command beyond the edge", typed(x, "+ 1 0; t 7; z;").reads(), -1001);
        sums("a command beyond the edge", x, RANGE / 8 + 1);
        counted("a command beyond the edge", x, 0, 1, 0);
    }

    private static void boundary() {
        PairSymbols x = at(6);
        x.adds(8, 5);
        DUE.is("cusp of (2 : 3)", x.symbol(8, 5), 2);
        DUE.is("cusp of S(2 : 3) = (3 : 4)", x.symbol(x.symbol(8, 2), 5), 3);
        int[] due = {0, 0, 5, -5};
        for (int cusp = 0; cusp < 4; cusp++) {
            DUE.is("boundary(" + cusp + ", 0)", x.boundary(cusp, 0), due[cusp]);
            DUE.is("boundary(" + cusp + ", 1)", x.boundary(cusp, 1), 1);
        }
        int[][] wrong = {{-1, 0}, {4, 0}, {0, -1}, {0, 2}, {LEAST, 1}, {MOST, MOST}};
        for (int[] w : wrong) {
            DUE.is("boundary(" + w[0] + ", " + w[1] + ")", x.boundary(w[0], w[1]), Long.MIN_VALUE);
        }
        counted("boundary", x, wrong.length, 0, 0);
        PairSymbols one = at(1);
        one.adds(0, 7);
        DUE.is("boundary(0, 0) at 1", one.boundary(0, 0), 0);
        DUE.is("boundary(0, 1) at 1", one.boundary(0, 1), 1);
        DUE.is("boundary(1, 0) at 1", one.boundary(1, 0), Long.MIN_VALUE);
    }

    private static void cuspidal() {
        PairSymbols x = new PairSymbols();
        DUE.is("cuspidal() of 0", x.cuspidal(), 1);
        x.adds(3, 4);
        DUE.is("cuspidal() of a closed symbol", x.cuspidal(), 1);
        x.adds(0, 1);
        DUE.is("cuspidal() of an open symbol", x.cuspidal(), 0);
        x.adds(1, 1);
        DUE.is("cuspidal() again", x.cuspidal(), 1);
    }

    private static void type() {
        PairSymbols x = new PairSymbols();
        DUE.is("type(0)", x.type(0), 1);
        DUE.is("type(127)", x.type(127), 2);
        int[] wrong = {-1, 128, LEAST, MOST};
        for (int c : wrong) {
            DUE.is("type(" + c + ")", x.type(c), BAD);
        }
        for (int k = 3; k <= 120; k++) {
            DUE.is("type(32)", x.type(32), k);
        }
        DUE.is("type(32) too many", x.type(32), FULL);
        DUE.is("type(59) too many", x.type(59), FULL);
        DUE.is("BAD comes before FULL", x.type(128), BAD);
        counted("type", x, wrong.length + 1, 0, 2);
        DUE.is("told(3)", x.told(3), 120);
    }

    private static void clear() {
        PairSymbols x = typed(new PairSymbols(), "z;;");
        DUE.is("clear()", x.clear(), 3);
        DUE.is("told(3) after clear()", x.told(3), 0);
        DUE.is("clear() again", x.clear(), 0);
        DUE.is("type after clear()", x.type('z'), 1);
        DUE.is("nothing of the old text is left", x.reads(), -11);
    }

    private static void reads() {
        PairSymbols x = typed(new PairSymbols(), " n14 ;+ -3 8;t3;w 1 7;");
        DUE.is("reads()", x.reads(), 4);
        DUE.is("the level then", x.told(4), 14);
        DUE.is("the text stays", x.told(3), 22);
        DUE.is("one state is kept", x.told(5), 1);
        PairSymbols y = at(14);
        y.adds(8, -3);
        y.applies(3);
        y.walks(1, 7);
        for (int i = 0; i < 5; i++) {
            DUE.is("the sum is that of the calls", x.sum(i, 0), y.sum(i, 0));
        }
        DUE.is("reads() again", x.reads(), 4);
        DUE.is("another state is kept", x.told(5), 2);
        DUE.is("back() over all commands", x.back(), 1);
        DUE.is("back() over all commands", x.back(), 0);
        DUE.is("the level before", x.told(4), 11);
        commandsThatFail();
        DUE.is("60 commands", typed(x, "z;".repeat(60)).reads(), 60);
        DUE.is("z makes the sum 0", typed(x, "+ 5 0 ; z ; ").reads(), 2);
        sums("z makes the sum 0", x, 0, 0, 0);
        DUE.is("numbers with zeros in front", typed(x, "n007;+-005 000;").reads(), 2);
        sums("numbers with zeros in front", x, -5);
        DUE.is("-0 is a number", typed(x, "+-0 0;").reads(), 1);
    }

    private static void commandsThatFail() {
        PairSymbols x = at(6);
        x.adds(0, 9);
        String[] texts = {"n0;", "n26;", "+1 12;", "+1 999;", "t0;", "t8;", "t2;", "w100 1;", "w1 0;", "w0 100;",
            "z;n5;+1 6;", "t5;z;n1;t8;"};
        int[] due = {0, 0, 0, 0, 0, 0, 0, 0, 0, 0, 2, 3};
        for (int k = 0; k < texts.length; k++) {
            DUE.is("reads() of " + texts[k], typed(x, texts[k]).reads(), -1000 - due[k]);
        }
        counted("no error is counted in reads()", x, 0, 0, 0);
        DUE.is("nothing is executed", x.told(4), 6);
        sums("nothing is executed", x, 9, 0, 0);
        DUE.is("no state is kept", x.told(5), 2);
        DUE.is("a fault comes before an error", typed(x, "n0;n0").reads(), -15);
    }

    private static void faults() {
        Object[][] texts = {{"", 0}, {"   ", 3}, {";", 0}, {" ;", 1}, {"z", 1}, {"z ", 2}, {"z;;", 2}, {"z;z", 3},
            {"z 1;", 2}, {"n;", 1}, {"n", 1}, {"n1", 2}, {"n12 3;", 4}, {"n1234;", 4}, {"n-1;", 1}, {"N1;", 0},
            {"+1;", 2}, {"+1 ;", 3}, {"+1-1;", 2}, {"+1 -1;", 3}, {"+- 1 1;", 2}, {"+--1 1;", 2}, {"+-", 2},
            {"+-1", 3}, {"+1234 1;", 4}, {"+ -1234 1;", 6}, {"+1 1234;", 6}, {"+1 1 1;", 5}, {"+;", 1}, {"t;", 1},
            {"t5,", 2}, {"t+5;", 1}, {"t-5;", 1}, {"w1;", 2}, {"w12", 3}, {"w 1 2", 5}, {"w1 -2;", 3}, {"w-1 2;", 1},
            {"w 1 2 3;", 6}, {"\tz;", 0}, {"z;\n", 2}, {"z;\0", 2}, {"n1 1 ;", 3}, {"z;   ", -1}, {"  z  ;  ", -1},
            {"n 1 ; z;", -1}, {"+0 0;", -1}, {"+   -0   0   ;", -1}, {"w99 99;", -1}, {"z;n999", 6}};
        for (Object[] t : texts) {
            String text = (String) t[0];
            int fault = (Integer) t[1];
            PairSymbols x = typed(new PairSymbols(), text);
            int answer = x.reads();
            if (fault == -1) {
                DUE.holds("no fault in '" + text + "'", answer >= 1);
            } else {
                DUE.is("reads() of '" + text + "'", answer, -10 - fault);
                DUE.is("a fault keeps no state", x.told(5), 0);
                counted("a fault is not counted", x, 0, 0, 0);
            }
        }
        DUE.is("a long text without an end", typed(new PairSymbols(), "z;".repeat(59) + "z ").reads(), -130);
        DUE.is("a long text of blanks", typed(new PairSymbols(), " ".repeat(120)).reads(), -130);
    }

    private static void back() {
        PairSymbols x = new PairSymbols();
        DUE.is("back() of nothing", x.back(), NO);
        counted("back() of nothing", x, 0, 1, 0);
        for (int v = 1; v <= 8; v++) {
            x.adds(0, v);
        }
        x.type('z');
        long[] due = {28, 21, 15, 10, 6, 3};
        for (int k = 0; k < 6; k++) {
            DUE.is("back()", x.back(), 5 - k);
            sums("back()", x, due[k], 0, 0);
        }
        DUE.is("the two oldest are forgotten", x.back(), NO);
        DUE.is("back() leaves the text", x.told(3), 1);
        DUE.is("back() keeps nothing", x.told(5), 0);
        x.level(24);
        x.adds(13, 4);
        x.level(2);
        x.walks(1, 2);
        x.applies(3);
        DUE.is("back() over applies", x.back(), 4);
        sums("back() over applies", x, 1);
        DUE.is("back() over walks", x.back(), 3);
        DUE.is("back() over level", x.back(), 2);
        sums("back() over level", x, 0, 0, 0, 0, 0, 0, 0, 0, 4);
        DUE.is("a change after back()", x.adds(0, 1), 2);
        DUE.is("kept then", x.told(5), 3);
        DUE.is("back() over it", x.back(), 2);
        sums("back() over it", x, 0, 0, 0, 0, 0, 0, 0, 0, 4);
    }

    private static void told() {
        PairSymbols x = new PairSymbols();
        int[] wrong = {-1, 6, LEAST, MOST};
        for (int what : wrong) {
            DUE.is("told(" + what + ")", x.told(what), BAD);
        }
        counted("told", x, wrong.length, 0, 0);
        x.trace(9, 0);
        x.polynomial(1, 0, -1);
        x.sum(3, 0);
        x.boundary(2, 0);
        counted("other numbers in place of BAD", x, wrong.length + 4, 0, 0);
        x.level(2);
        x.trace(2, 0);
        x.polynomial(4, 1, 0);
        counted("other numbers in place of NO", x, wrong.length + 4, 2, 0);
        x.type(59);
        DUE.is("told(3)", x.told(3), 1);
        DUE.is("told(4)", x.told(4), 2);
        DUE.is("told(5)", x.told(5), 1);
    }

    private static void hashed(String when, PairSymbols x, long... numbers) {
        long h = 2297;
        for (long number : numbers) {
            h = 31 * h + number;
        }
        DUE.is(when, x.digest(), h);
        DUE.is(when + " again", x.digest(), h);
    }

    private static void digest() {
        PairSymbols x = new PairSymbols();
        hashed("digest() of a new object", x, 0, 0, 0, 0, 11, 0, 12, 3, 2, 1, 0, 1, 0, 1, 0, 1, 1);
        x.adds(0, -7);
        x.type(1);
        x.type(2);
        x.type(-1);
        hashed("digest() of more", x, 1, 0, 0, 2, 11, 1, 12, 3, 2, 1, -7, 1, 0, 1, 0, 1, 0);
        x.level(1);
        hashed("digest() at 1", x, 1, 0, 0, 2, 1, 2, 1, 0, 1, 0, 1);
    }
}
