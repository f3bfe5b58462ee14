/** The kept states, as THE SUM and promise 22 have them: what keeps one, the seventh, and back() with none. */
public final class KeptTest {
    private static final Due DUE = new Due("KeptTest");

    public static void main(String[] args) {
        noneAtFirst();
        changesKeepOne();
        keptAlsoIfNothingChanges();
        othersKeepNone();
        errorsKeepNone();
        backWithEachNumberOfStates();
        for (int seventh = 0; seventh < 5; seventh++) {
            theSeventh(seventh);
        }
        manyMoreThanSix();
        backAndForth();
        changesAfterBack();
        whatBackRestores();
        oneChangeForAllCommands();
        DUE.end();
    }

    /** "no kept states" */
    private static void noneAtFirst() {
        PairSymbols x = new PairSymbols();
        DUE.is("told(5) at first", x.told(5), 0);
        for (int k = 1; k <= 3; k++) {
            DUE.is("back() with none", x.back(), -3);
            DUE.is("told(1) then", x.told(1), k);
            DUE.is("told(5) then", x.told(5), 0);
            DUE.is("told(4) then", x.told(4), 11);
        }
    }

    /** One of the five kinds of change; each answers no error at any time. */
    private static void change(PairSymbols x, int kind) {
        switch (kind) {
            case 0: DUE.holds("level()", x.level(10) >= 1); break;
            case 1: DUE.holds("adds()", x.adds(0, 3) >= 0); break;
            case 2: DUE.holds("applies()", x.applies(1) >= 0); break;
            case 3: DUE.holds("walks()", x.walks(1, 2) >= 0); break;
            default:
                Starts.type(x, "+2 0;");
                DUE.is("reads()", x.reads(), 1);
        }
    }

    private static void changesKeepOne() {
        for (int kind = 0; kind < 5; kind++) {
            PairSymbols x = new PairSymbols();
            change(x, kind);
            DUE.is("told(5) after one change of kind " + kind, x.told(5), 1);
            DUE.is("back() over it", x.back(), 0);
            DUE.is("told(4) then", x.told(4), 11);
            DUE.is("sum(0, 0) then", x.sum(0, 0), 0);
            DUE.is("back() once more", x.back(), -3);
        }
    }

    /** "also if nothing changes" */
    private static void keptAlsoIfNothingChanges() {
        PairSymbols x = new PairSymbols();
        DUE.is("the same level", x.level(11), 11);
        DUE.is("told(5) then", x.told(5), 1);
        DUE.is("no multiple", x.adds(0, 0), 0);
        DUE.is("told(5) then", x.told(5), 2);
        DUE.is("a symbol that is 0", x.adds(2, 5), 0);
        DUE.is("told(5) then", x.told(5), 3);
        DUE.is("an operator on 0", x.applies(2), 0);
        DUE.is("told(5) then", x.told(5), 4);
        DUE.is("a path that is 0", x.walks(0, 1), 0);
        DUE.is("told(5) then", x.told(5), 5);
        Starts.type(x, "z;");
        DUE.is("z on 0", x.reads(), 1);
        DUE.is("told(5) then", x.told(5), 6);
        for (int left = 5; left >= 0; left--) {
            DUE.is("back()", x.back(), left);
        }
    }

    private static void othersKeepNone() {
        PairSymbols x = Starts.at(14);
        x.adds(0, 4);
        x.symbols();
        x.symbol(0, 0);
        x.pair(1, 1);
        x.space(0);
        x.fraction(0, 0, 0);
        x.table(3, 0, 0, 0);
        x.trace(3, 0);
        x.polynomial(3, 0, 0);
        x.root(3, 0);
        x.formula(3, 0);
        x.sum(0, 0);
        x.boundary(0, 0);
        x.cuspidal();
        x.type('z');
        x.clear();
        x.told(0);
        x.digest();
        DUE.is("told(5) after queries and texts", x.told(5), 2);
        DUE.is("back()", x.back(), 1);
        DUE.is("told(5) after back()", x.told(5), 1);
    }

    private static void errorsKeepNone() {
        PairSymbols x = Starts.at(14);
        x.level(0);
        x.level(26);
        x.adds(24, 1);
        x.adds(0, 1000);
        x.applies(0);
        x.applies(7);
        x.walks(0, 0);
        x.reads();
        Starts.type(x, "n0;");
        x.reads();
        DUE.is("told(5) after errors", x.told(5), 1);
        DUE.is("told(0) after errors", x.told(0), 6);
        DUE.is("told(1) after errors", x.told(1), 1);
    }

    private static void backWithEachNumberOfStates() {
        for (int count = 0; count <= 8; count++) {
            PairSymbols x = new PairSymbols();
            for (int k = 1; k <= count; k++) {
                x.adds(0, 1);
                DUE.is("told(5) after " + k, x.told(5), Math.min(k, 6));
            }
            int kept = Math.min(count, 6);
            for (int k = 1; k <= kept; k++) {
                DUE.is("back() " + k + " of " + count, x.back(), kept - k);
                DUE.is("sum(0, 0) then", x.sum(0, 0), count - k);
            }
            DUE.is("back() with none left of " + count, x.back(), -3);
            DUE.is("sum(0, 0) then", x.sum(0, 0), count - kept);
            DUE.is("told(1) then", x.told(1), 1);
        }
    }

    /** Level 10 is set before, so that each kind of change leaves a state that can be told from the others. */
    private static void theSeventh(int kind) {
        PairSymbols x = new PairSymbols();
        x.level(5);
        x.level(10);
        for (int k = 1; k <= 4; k++) {
            x.adds(0, 1);
        }
        DUE.is("six are kept", x.told(5), 6);
        change(x, kind);
        DUE.is("told(5) after the seventh, kind " + kind, x.told(5), 6);
        for (int k = 4; k >= 0; k--) {
            DUE.is("back()", x.back(), k + 1);
            DUE.is("told(4) then", x.told(4), 10);
            DUE.is("sum(0, 0) then", x.sum(0, 0), k);
        }
        DUE.is("back() to level 5, the second state", x.back(), 0);
        DUE.is("told(4) then", x.told(4), 5);
        DUE.is("level 11, the oldest, is forgotten", x.back(), -3);
        DUE.is("told(4) then", x.told(4), 5);
    }

    private static void manyMoreThanSix() {
        PairSymbols x = new PairSymbols();
        for (int k = 1; k <= 400; k++) {
            x.level(1 + k % 25);
        }
        for (int k = 399; k >= 394; k--) {
            DUE.is("back()", x.back(), k - 394);
            DUE.is("told(4) then", x.told(4), 1 + k % 25);
        }
        DUE.is("back() with none", x.back(), -3);
    }

    /** A state that was restored is not kept any more, and a change after it keeps the restored one. */
    private static void backAndForth() {
        PairSymbols x = new PairSymbols();
        for (int k = 1; k <= 9; k++) {
            x.adds(0, 1);
        }
        DUE.is("back()", x.back(), 5);
        DUE.is("back()", x.back(), 4);
        DUE.is("adds()", x.adds(0, 100), 1);
        DUE.is("told(5)", x.told(5), 5);
        x.adds(0, 100);
        x.adds(0, 100);
        DUE.is("told(5)", x.told(5), 6);
        long[] sums = {207, 107, 7, 6, 5, 4};
        for (int k = 0; k < 6; k++) {
            DUE.is("back()", x.back(), 5 - k);
            DUE.is("sum(0, 0)", x.sum(0, 0), sums[k]);
        }
        DUE.is("back() with none", x.back(), -3);
        DUE.is("sum(0, 0)", x.sum(0, 0), 4);
    }

    /** Each change goes on from what back() restored, not from what was there before back(). */
    private static void changesAfterBack() {
        for (int kind = 0; kind < 5; kind++) {
            PairSymbols x = Starts.at(14);
            x.adds(0, 7);
            x.level(24);
            x.adds(0, 50);
            x.back();
            x.back();
            DUE.is("told(4) after back()", x.told(4), 14);
            if (kind == 0) {
                DUE.is("level() answers the restored level", x.level(10), 14);
                continue;
            }
            change(x, kind);
            DUE.is("told(4) after a change of kind " + kind, x.told(4), 14);
            PairSymbols y = Starts.at(14);
            y.adds(0, 7);
            change(y, kind);
            for (int i = 0; i < 5; i++) {
                DUE.is("sum(" + i + ", 0) after a change of kind " + kind, x.sum(i, 0), y.sum(i, 0));
            }
        }
    }

    /** "Restores the level and the sum": all nine coordinates of level 24, and neither the text nor the counts. */
    private static void whatBackRestores() {
        PairSymbols x = Starts.at(24);
        int next = 0;
        for (int s = 0; s < 48; s++) {
            if (x.symbol(s, 6) == next) {
                next++;
                x.adds(s, 10 + next);
            }
        }
        DUE.is("free symbols", next, 9);
        x.level(1);
        x.level(26);
        x.table(1, 0, 0, 0);
        Starts.type(x, "z;z");
        DUE.is("back()", x.back(), 5);
        DUE.is("told(4)", x.told(4), 24);
        for (int i = 0; i < 9; i++) {
            DUE.is("sum(" + i + ", 0)", x.sum(i, 0), 11 + i);
        }
        DUE.is("told(0)", x.told(0), 2);
        DUE.is("told(3)", x.told(3), 3);
        DUE.is("a symbol of the restored level", x.adds(47, 0), 9);
    }

    /** "All commands together are one change for back()." */
    private static void oneChangeForAllCommands() {
        PairSymbols x = Starts.at(15);
        x.adds(0, 6);
        Starts.type(x, "n 3; + 1 0; t 2; w 1 3; n 24; + 5 1; z; n 2;");
        DUE.is("reads()", x.reads(), 8);
        DUE.is("told(4)", x.told(4), 2);
        DUE.is("told(5)", x.told(5), 3);
        DUE.is("back()", x.back(), 2);
        DUE.is("told(4)", x.told(4), 15);
        DUE.is("sum(0, 0)", x.sum(0, 0), 6);
        for (int k = 1; k <= 7; k++) {
            DUE.holds("reads() again", x.reads() == 8);
        }
        DUE.is("told(5) after seven of them", x.told(5), 6);
    }
}
