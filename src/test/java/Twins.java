import java.util.Arrays;

/**
 * Two objects with the same calls behind them. One gets a call that is refused; then the two are compared in all that
 * can be seen of them, now and after further calls that bring to light what was kept and typed.
 */
final class Twins {
    /** Which error is counted by the call: one of told(0) to told(2), or none. */
    static final int BAD = 0, NO = 1, FULL = 2, NOTHING = 3;

    private static final int CHANGES = 6;

    private final Due due;
    private final PairSymbols called;
    private final PairSymbols spared;
    private final String where;
    private final int[] more = new int[4];

    private Twins(Due due, int start, String call) {
        this.due = due;
        called = Starts.make(start);
        spared = Starts.make(start);
        where = Starts.name(start) + ", " + call;
    }

    /** The call must answer as said, count one error of that kind, and change nothing else. */
    static void refused(Due due, int start, int kind, long answer, String name, int... a) {
        for (int next = 0; next < CHANGES; next++) {
            Twins twins = new Twins(due, start, name + Arrays.toString(a));
            due.is(twins.where, Calls.call(twins.called, name, a), answer);
            twins.more[kind]++;
            twins.compareAll(next);
        }
    }

    /** The text must not be read: it answers as said, counts no error and changes nothing. */
    static void unread(Due due, int start, String text, long answer) {
        for (int next = 0; next < CHANGES; next++) {
            Twins twins = new Twins(due, start, "reads() of '" + text + "'");
            Starts.type(twins.called, text);
            Starts.type(twins.spared, text);
            due.is(twins.where, twins.called.reads(), answer);
            twins.compareAll(next);
        }
    }

    /** One of the changes, or none; what the refused call left behind could show in it. */
    private static long change(PairSymbols x, int next) {
        switch (next) {
            case 0: return x.level(6);
            case 1: return x.adds(0, -1);
            case 2: return x.applies(1);
            case 3: return x.walks(2, 5);
            case 4: return x.reads();
            default: return 0;
        }
    }

    private void compareAll(int next) {
        compare("at once");
        same("change " + next, change(called, next), change(spared, next));
        compare("after change " + next);
        for (int k = 0; k <= 6; k++) {
            same("back " + k, called.back(), spared.back());
            compare("after back " + k);
        }
        same("adds", called.adds(0, 1), spared.adds(0, 1));
        compare("after adds");
        same("reads", called.reads(), spared.reads());
        compare("after reads");
        same("clear", called.clear(), spared.clear());
        same("reads of the empty text", called.reads(), spared.reads());
        same("type", called.type('z'), spared.type('z'));
        compare("after type");
    }

    private void same(String what, long got, long want) {
        due.is(where + ": " + what, got, want);
    }

    private void compare(String when) {
        for (int what = 0; what < 3; what++) {
            same(when + ", told(" + what + ")", called.told(what), spared.told(what) + more[what]);
        }
        for (int what = 3; what <= 5; what++) {
            same(when + ", told(" + what + ")", called.told(what), spared.told(what));
        }
        same(when + ", symbols()", called.symbols(), spared.symbols());
        for (int what = 0; what <= 3; what++) {
            same(when + ", space(" + what + ")", called.space(what), spared.space(what));
        }
        int dimension = Ranges.dimension(spared.told(4));
        for (int i = 0; i < dimension; i++) {
            same(when + ", sum(" + i + ", 0)", called.sum(i, 0), spared.sum(i, 0));
        }
        int cusps = Ranges.cusps(spared.told(4));
        for (int cusp = 0; cusp < cusps; cusp++) {
            same(when + ", boundary(" + cusp + ", 0)", called.boundary(cusp, 0), spared.boundary(cusp, 0));
        }
        same(when + ", cuspidal()", called.cuspidal(), spared.cuspidal());
    }
}
