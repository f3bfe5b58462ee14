/** Calls of the program by name. */
final class Calls {
    private Calls() {
    }

    static final String[] NAMES = {"level", "symbols", "symbol", "pair", "space", "fraction", "table", "trace",
        "polynomial", "root", "formula", "adds", "applies", "walks", "sum", "boundary", "cuspidal", "type",
        "clear", "reads", "back", "told", "digest"};

    static int arguments(String name) {
        switch (name) {
            case "symbols": case "cuspidal": case "clear": case "reads": case "back": case "digest": return 0;
            case "level": case "space": case "applies": case "type": case "told": return 1;
            case "fraction": case "polynomial": return 3;
            case "table": return 4;
            default: return 2;
        }
    }

    static long call(PairSymbols x, String name, int... a) {
        switch (name) {
            case "level": return x.level(a[0]);
            case "symbols": return x.symbols();
            case "symbol": return x.symbol(a[0], a[1]);
            case "pair": return x.pair(a[0], a[1]);
            case "space": return x.space(a[0]);
            case "fraction": return x.fraction(a[0], a[1], a[2]);
            case "table": return x.table(a[0], a[1], a[2], a[3]);
            case "trace": return x.trace(a[0], a[1]);
            case "polynomial": return x.polynomial(a[0], a[1], a[2]);
            case "root": return x.root(a[0], a[1]);
            case "formula": return x.formula(a[0], a[1]);
            case "adds": return x.adds(a[0], a[1]);
            case "applies": return x.applies(a[0]);
            case "walks": return x.walks(a[0], a[1]);
            case "sum": return x.sum(a[0], a[1]);
            case "boundary": return x.boundary(a[0], a[1]);
            case "cuspidal": return x.cuspidal();
            case "type": return x.type(a[0]);
            case "clear": return x.clear();
            case "reads": return x.reads();
            case "back": return x.back();
            case "told": return x.told(a[0]);
            case "digest": return x.digest();
            default: throw new IllegalStateException(name);
        }
    }
}
