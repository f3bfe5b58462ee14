/** Asks the program and the model everything that can be asked of each level, and compares. */
public final class SweepTest {
    public static void main(String[] args) {
        Due due = new Due("SweepTest");
        Both both = new Both(due);
        for (int level = 1; level <= 25; level++) {
            both.renew();
            both.call("level", level);
            for (int what = -1; what <= 4; what++) {
                both.call("space", what);
            }
            sweepSymbols(both, level);
            sweepPairs(both, level);
            sweepOperators(both, level);
            sweepSums(both, level);
            sweepPaths(both, level);
        }
        for (int m = -1; m <= 62; m++) {
            for (int what = -1; what <= 6; what++) {
                both.roomFor(1, 11);
                both.call("formula", m, what);
            }
        }
        due.end();
    }

    private static void sweepSymbols(Both both, int level) {
        int symbols = (int) both.call("symbols");
        int dimension = (int) both.call("space", 0);
        for (int s = -1; s <= symbols; s++) {
            for (int what = -1; what <= 7; what++) {
                both.roomFor(1, level);
                both.call("symbol", s, what);
            }
            for (int i = -1; i <= dimension; i++) {
                for (int what = -1; what <= 2; what++) {
                    both.roomFor(1, level);
                    both.call("fraction", s, i, what);
                }
            }
        }
    }

    private static void sweepPairs(Both both, int level) {
        for (int c = -level - 1; c <= level + 1; c++) {
            for (int d = -level - 1; d <= level + 1; d++) {
                both.roomFor(1, level);
                both.call("pair", c, d);
            }
        }
        int[] edges = {-10000, -9999, -9998, 9998, 9999, 10000, Integer.MIN_VALUE, Integer.MAX_VALUE};
        for (int c : edges) {
            for (int d : edges) {
                both.roomFor(1, level);
                both.call("pair", c, d);
            }
        }
    }

    private static void sweepOperators(Both both, int level) {
        int dimension = (int) both.call("space", 0);
        for (int n = -1; n <= 8; n++) {
            for (int what = -1; what <= 2; what++) {
                both.roomFor(dimension + 5, level);
                both.call("trace", n, what);
                for (int k = -1; k <= dimension + 2; k++) {
                    both.call("polynomial", n, what, k);
                }
            }
            both.roomFor(19, level);
            for (int v = -9; v <= 9; v++) {
                both.call("root", n, v);
            }
            for (int i = -1; i <= dimension; i++) {
                for (int j = -1; j <= dimension; j++) {
                    for (int what = -1; what <= 2; what++) {
                        both.roomFor(1, level);
                        both.call("table", n, i, j, what);
                    }
                }
            }
        }
    }

    /** Each symbol by itself, and what each operator makes of it. */
    private static void sweepSums(Both both, int level) {
        both.roomFor(1, level);
        int symbols = (int) both.call("symbols");
        for (int s = 0; s < symbols; s++) {
            both.roomFor(400, level);
            both.call("adds", s, s % 2 == 0 ? 7 : -999);
            look(both);
            for (int n = 1; n <= 7; n++) {
                long answer = both.call("applies", n);
                look(both);
                if (answer >= 0) {
                    both.call("back");
                }
            }
            both.call("back");
        }
    }

    private static void look(Both both) {
        int dimension = (int) both.call("space", 0);
        int cusps = (int) both.call("space", 1);
        for (int i = 0; i < dimension; i++) {
            both.call("sum", i, 0);
        }
        for (int cusp = -1; cusp <= cusps; cusp++) {
            both.call("boundary", cusp, 0);
        }
        both.call("boundary", 0, 1);
        both.call("cuspidal");
        both.call("digest");
    }

    private static void sweepPaths(Both both, int level) {
        for (int a = 0; a <= 99; a++) {
            for (int b = 1; b <= 99; b++) {
                both.roomFor(4, level);
                both.call("walks", a, b);
                both.call("digest");
                both.call("back");
            }
        }
    }
}
