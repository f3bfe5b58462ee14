import java.util.Arrays;

/** The program and the model side by side: each call goes to both, and the answers are compared. */
final class Both {
    /** The document says nothing of an object after its 512th call. */
    static final int MOST_CALLS = 512;

    private final Due due;
    private PairSymbols program;
    private Model model;
    private int calls;
    private int objects;

    Both(Due due) {
        this.due = due;
        renew();
    }

    void renew() {
        program = new PairSymbols();
        model = new Model();
        calls = 0;
        objects++;
    }

    int left() {
        return MOST_CALLS - calls;
    }

    long call(String name, int... a) {
        if (left() == 0) {
            throw new IllegalStateException("too many calls");
        }
        calls++;
        long got = Calls.call(program, name, a);
        due.is("object " + objects + ", call " + calls + ", " + name + Arrays.toString(a), got, model.call(name, a));
        return got;
    }

    /** A new object at a level, if fewer calls are left than needed. */
    void roomFor(int needed, int level) {
        if (left() < needed) {
            renew();
            call("level", level);
        }
    }

    void type(String text) {
        for (int k = 0; k < text.length(); k++) {
            call("type", text.charAt(k));
        }
    }
}
