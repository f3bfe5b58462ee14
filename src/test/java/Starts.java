/** Objects that have calls behind them, each time the same ones. */
final class Starts {
    static final int NEW = 0, BUSY = 1, FULL = 2, TOP = 3, BOTTOM = 4, SMALL = 5, COUNT = 6;
    static final long RANGE = 1000000000000L;

    private Starts() {
    }

    static PairSymbols make(int start) {
        switch (start) {
            case NEW: return new PairSymbols();
            case BUSY: return busy();
            case FULL: return full();
            case TOP: return atTheEnd(1);
            case BOTTOM: return atTheEnd(-1);
            default: return at(1);
        }
    }

    static String name(int start) {
        return new String[] {"new object", "busy object", "full object", "sum at 10^12", "sum at -10^12",
            "level 1"}[start];
    }

    static PairSymbols at(int level) {
        PairSymbols x = new PairSymbols();
        x.level(level);
        return x;
    }

    static void type(PairSymbols x, String text) {
        x.clear();
        for (int k = 0; k < text.length(); k++) {
            x.type(text.charAt(k));
        }
    }

    /** Level 24 with some coordinates, a text that can be read, four kept states and no error yet. */
    private static PairSymbols busy() {
        PairSymbols x = at(24);
        x.adds(0, 5);
        x.adds(13, -7);
        x.walks(3, 7);
        type(x, "+ 3 1; t 5; w 1 2;");
        return x;
    }

    /** Level 12, all 120 bytes, all 6 kept states (two were forgotten), and each error counted. */
    private static PairSymbols full() {
        PairSymbols x = at(12);
        for (int k = 1; k <= 7; k++) {
            x.adds(0, k);
        }
        type(x, "n 6 ; + -2 8 ; ".repeat(8));
        x.type('z');
        x.level(26);
        x.symbol(0, 7);
        x.table(2, 0, 0, 0);
        return x;
    }

    /** Level 3 has one coordinate, and operator 7 multiplies it by 8. */
    static PairSymbols grown(long goal) {
        PairSymbols x = at(3);
        String digits = Long.toString(Math.abs(goal), 8);
        for (int k = 0; k < digits.length(); k++) {
            x.applies(7);
            x.adds(0, Long.signum(goal) * (digits.charAt(k) - '0'));
        }
        return x;
    }

    private static PairSymbols atTheEnd(int sign) {
        PairSymbols x = grown(sign * RANGE);
        type(x, "z; + 4 0;");
        return x;
    }
}
