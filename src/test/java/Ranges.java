/** The ranges that the document gives for the arguments of each method, and what it answers outside of them. */
final class Ranges {
    private Ranges() {
    }

    private static final int[] SYMBOLS = {1, 3, 4, 6, 6, 12, 8, 12, 12, 18, 12, 24, 14, 24, 24, 24, 18, 36, 20, 36,
        32, 36, 24, 48, 30};
    private static final int[] CUSPS = {1, 2, 2, 3, 2, 4, 2, 4, 4, 4, 2, 6, 2, 4, 4, 6, 2, 8, 2, 6, 4, 4, 2, 8, 6};
    private static final int[] GENUS = {0, 0, 0, 0, 0, 0, 0, 0, 0, 0, 1, 0, 0, 1, 1, 0, 1, 0, 1, 1, 1, 2, 2, 1, 0};

    /** The methods with arguments. */
    static final String[] NAMES = {"level", "symbol", "pair", "space", "fraction", "table", "trace", "polynomial",
        "root", "formula", "adds", "applies", "walks", "sum", "boundary", "type", "told"};

    static int symbols(int level) {
        return SYMBOLS[level - 1];
    }

    static int cusps(int level) {
        return CUSPS[level - 1];
    }

    static int genus(int level) {
        return GENUS[level - 1];
    }

    static int dimension(int level) {
        return 2 * genus(level) + cusps(level) - 1;
    }

    /** For each argument the least and the greatest number inside; at level 1 no coordinate is inside. */
    static int[][] of(String name, int level) {
        int[] symbol = {0, symbols(level) - 1};
        int[] coordinate = {0, dimension(level) - 1};
        int[] operator = {1, 7};
        int[] part = {0, 1};
        switch (name) {
            case "level": return new int[][] {{1, 25}};
            case "symbol": return new int[][] {symbol, {0, 6}};
            case "pair": return new int[][] {{-9999, 9999}, {-9999, 9999}};
            case "space": return new int[][] {{0, 3}};
            case "fraction": return new int[][] {symbol, coordinate, part};
            case "table": return new int[][] {operator, coordinate, coordinate, part};
            case "trace": return new int[][] {operator, part};
            case "polynomial": return new int[][] {operator, part, {0, Integer.MAX_VALUE}};
            case "root": return new int[][] {operator, {-8, 8}};
            case "formula": return new int[][] {{1, 60}, {0, 5}};
            case "adds": return new int[][] {symbol, {-999, 999}};
            case "applies": return new int[][] {operator};
            case "walks": return new int[][] {{0, 99}, {1, 99}};
            case "sum": return new int[][] {coordinate, part};
            case "boundary": return new int[][] {{0, cusps(level) - 1}, part};
            case "type": return new int[][] {{0, 127}};
            case "told": return new int[][] {{0, 5}};
            default: throw new IllegalStateException(name);
        }
    }

    static boolean inside(String name, int level, int... a) {
        int[][] ranges = of(name, level);
        for (int k = 0; k < a.length; k++) {
            if (a[k] < ranges[k][0] || a[k] > ranges[k][1]) {
                return false;
            }
        }
        return true;
    }

    static long bad(String name) {
        switch (name) {
            case "trace": return -9999;
            case "polynomial": case "sum": case "boundary": return Long.MIN_VALUE;
            default: return -2;
        }
    }

    static long no(String name) {
        switch (name) {
            case "trace": return -9998;
            case "polynomial": return Long.MIN_VALUE + 1;
            default: return -3;
        }
    }

    static boolean takesOperator(String name) {
        switch (name) {
            case "table": case "trace": case "polynomial": case "root": case "applies": return true;
            default: return false;
        }
    }

    static boolean coprime(int a, int b) {
        for (int k = 2; k <= a; k++) {
            if (a % k == 0 && b % k == 0) {
                return false;
            }
        }
        return true;
    }
}
