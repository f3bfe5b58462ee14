/**
 * Each call that can be refused, on objects in six conditions: what it answers, that told() counts it once, and that
 * it changes nothing else.
 */
public final class RefusedTest {
    private static final Due DUE = new Due("RefusedTest");
    private static final int[] LEVELS = {11, 24, 12, 3, 3, 1};

    public static void main(String[] args) {
        for (int start = 0; start < Starts.COUNT; start++) {
            for (String name : Ranges.NAMES) {
                outsideOfARange(start, name);
            }
            for (int n = 1; n <= 7; n++) {
                notCoprime(start, n);
            }
        }
        beyondTheRangeOfTheSum();
        textThatIsFull();
        nothingKept();
        severalAtOnce();
        noSuchValue();
        readsThatFail();
        DUE.end();
    }

    /** One argument outside, the others inside. */
    private static void outsideOfARange(int start, String name) {
        int level = LEVELS[start];
        int[][] ranges = Ranges.of(name, level);
        for (int k = 0; k < ranges.length; k++) {
            int[] wrong = {ranges[k][0] - 1, ranges[k][1] + 1, Integer.MIN_VALUE, Integer.MAX_VALUE};
            for (int w : wrong) {
                int[] a = new int[ranges.length];
                for (int j = 0; j < a.length; j++) {
                    a[j] = j == k ? w : ranges[j][0];
                }
                if (!Ranges.inside(name, level, a)) {
                    Twins.refused(DUE, start, Twins.BAD, Ranges.bad(name), name, a);
                }
            }
        }
    }

    private static void notCoprime(int start, int n) {
        if (Ranges.coprime(n, LEVELS[start])) {
            return;
        }
        Twins.refused(DUE, start, Twins.NO, -3, "table", n, 0, 0, 0);
        Twins.refused(DUE, start, Twins.NO, -3, "table", n, 0, 0, 1);
        Twins.refused(DUE, start, Twins.NO, -9998, "trace", n, 0);
        Twins.refused(DUE, start, Twins.NO, -9998, "trace", n, 1);
        Twins.refused(DUE, start, Twins.NO, Long.MIN_VALUE + 1, "polynomial", n, 0, 0);
        Twins.refused(DUE, start, Twins.NO, Long.MIN_VALUE + 1, "polynomial", n, 1, Integer.MAX_VALUE);
        Twins.refused(DUE, start, Twins.NO, -3, "root", n, 0);
        Twins.refused(DUE, start, Twins.NO, -3, "applies", n);
    }

    /** At level 3, symbol 1 is minus symbol 0, and the path to 1/3 is symbol 0. */
    private static void beyondTheRangeOfTheSum() {
        Twins.refused(DUE, Starts.TOP, Twins.NO, -3, "adds", 0, 1);
        Twins.refused(DUE, Starts.TOP, Twins.NO, -3, "adds", 0, 999);
        Twins.refused(DUE, Starts.TOP, Twins.NO, -3, "adds", 1, -1);
        Twins.refused(DUE, Starts.TOP, Twins.NO, -3, "applies", 2);
        Twins.refused(DUE, Starts.TOP, Twins.NO, -3, "applies", 7);
        Twins.refused(DUE, Starts.TOP, Twins.NO, -3, "walks", 1, 3);
        Twins.refused(DUE, Starts.BOTTOM, Twins.NO, -3, "adds", 0, -1);
        Twins.refused(DUE, Starts.BOTTOM, Twins.NO, -3, "adds", 0, -999);
        Twins.refused(DUE, Starts.BOTTOM, Twins.NO, -3, "adds", 1, 1);
        Twins.refused(DUE, Starts.BOTTOM, Twins.NO, -3, "applies", 4);
        Twins.refused(DUE, Starts.BOTTOM, Twins.NO, -3, "applies", 5);
    }

    private static void textThatIsFull() {
        int[] bytes = {0, 32, 'z', ';', 127};
        for (int c : bytes) {
            Twins.refused(DUE, Starts.FULL, Twins.FULL, -4, "type", c);
        }
    }

    private static void nothingKept() {
        Twins.refused(DUE, Starts.NEW, Twins.NO, -3, "back");
    }

    /** BAD comes before NO, and before FULL. */
    private static void severalAtOnce() {
        Twins.refused(DUE, Starts.FULL, Twins.BAD, -2, "type", -1);
        Twins.refused(DUE, Starts.FULL, Twins.BAD, -2, "type", 128);
        Twins.refused(DUE, Starts.FULL, Twins.BAD, -2, "table", 2, 5, 0, 0);
        Twins.refused(DUE, Starts.FULL, Twins.BAD, -2, "table", 3, 0, 5, 0);
        Twins.refused(DUE, Starts.FULL, Twins.BAD, -2, "table", 4, 0, 0, 2);
        Twins.refused(DUE, Starts.FULL, Twins.BAD, -9999, "trace", 6, 2);
        Twins.refused(DUE, Starts.FULL, Twins.BAD, Long.MIN_VALUE, "polynomial", 2, 2, 0);
        Twins.refused(DUE, Starts.FULL, Twins.BAD, Long.MIN_VALUE, "polynomial", 2, 0, -1);
        Twins.refused(DUE, Starts.FULL, Twins.BAD, -2, "root", 3, 9);
        Twins.refused(DUE, Starts.FULL, Twins.BAD, -2, "root", 3, -9);
        Twins.refused(DUE, Starts.TOP, Twins.BAD, -2, "adds", 0, 1000);
        Twins.refused(DUE, Starts.TOP, Twins.BAD, -2, "adds", 4, 999);
        Twins.refused(DUE, Starts.TOP, Twins.BAD, -2, "applies", 8);
        Twins.refused(DUE, Starts.TOP, Twins.BAD, -2, "walks", 1, 100);
        Twins.refused(DUE, Starts.BOTTOM, Twins.BAD, -2, "adds", 0, -1000);
    }

    /** NONE is no error, and an error comes before it: (0 : 0) is no symbol at level 12, nor is (10000 : 0). */
    private static void noSuchValue() {
        Twins.refused(DUE, Starts.FULL, Twins.NOTHING, -1, "pair", 0, 0);
        Twins.refused(DUE, Starts.FULL, Twins.NOTHING, -1, "pair", -9996, 9996);
        Twins.refused(DUE, Starts.FULL, Twins.NOTHING, -1, "symbol", 1, 6);
        Twins.refused(DUE, Starts.SMALL, Twins.NOTHING, -1, "symbol", 0, 6);
        Twins.refused(DUE, Starts.FULL, Twins.BAD, -2, "pair", 10000, 0);
        Twins.refused(DUE, Starts.FULL, Twins.BAD, -2, "pair", 0, -10000);
        Twins.refused(DUE, Starts.FULL, Twins.BAD, -2, "symbol", 24, 6);
    }

    /** A fault of the text and a command with an error are counted by nothing. */
    private static void readsThatFail() {
        Twins.refused(DUE, Starts.NEW, Twins.NOTHING, -10, "reads");
        Twins.refused(DUE, Starts.SMALL, Twins.NOTHING, -10, "reads");
        String[] texts = {"", "   ", "z", "z;z", "z;;", "n 24", "n 1234;", "+ 1 0; + 1;", "n 5; + 1 0; t 2; w 1 2"};
        int[] faults = {0, 3, 1, 3, 2, 4, 5, 10, 22};
        for (int k = 0; k < texts.length; k++) {
            Twins.unread(DUE, Starts.BUSY, texts[k], -10 - faults[k]);
            Twins.unread(DUE, Starts.TOP, texts[k], -10 - faults[k]);
        }
        String[] wrong = {"n0;", "n26;", "z; n 0;", "n 4; + 1 0; t 2;", "n 1; + 1 1;", "+ 1 0; z; n 3; + 1 4; z;",
            "t 8;", "z; t 0; t 9;", "w 100 1;", "w 1 0;", "w 0 100;", "z; + 1 0; w 1 2; n 7; t 7;"};
        int[] index = {0, 0, 1, 2, 1, 3, 0, 1, 0, 0, 0, 4};
        for (int k = 0; k < wrong.length; k++) {
            Twins.unread(DUE, Starts.NEW, wrong[k], -1000 - index[k]);
        }
        Twins.unread(DUE, Starts.TOP, "+ 1 0; z;", -1000);
        Twins.unread(DUE, Starts.TOP, "+ -1 0; + 1 0; t 1; + 1 0; z;", -1003);
        Twins.unread(DUE, Starts.TOP, "+ 0 0; w 1 3; z;", -1001);
        Twins.unread(DUE, Starts.TOP, "w 0 1; t 2; z;", -1001);
        Twins.unread(DUE, Starts.TOP, "n 3; t 7; t 3;", -1002);
        Twins.unread(DUE, Starts.BOTTOM, "+ -1 0; z;", -1000);
        Twins.unread(DUE, Starts.BOTTOM, "+ 1 0; + -1 0; + 1 1;", -1002);
        Twins.unread(DUE, Starts.BOTTOM, "w 1 3; w 1 3; + 3 1;", -1002);
    }
}
