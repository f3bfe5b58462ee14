/** Compares answers with those that are due, and counts the wrong ones. */
final class Due {
    private final String title;
    private int asked;
    private int wrong;

    Due(String title) {
        this.title = title;
    }

    void is(String call, long got, long want) {
        asked++;
        if (got != want) {
            wrong++;
            if (wrong <= 40) {
                System.out.println(title + ": " + call + " answered " + got + ", due is " + want);
            }
        }
    }

    void holds(String what, boolean truth) {
        is(what, truth ? 1 : 0, 1);
    }

    /** Ends the program with exit code 1 if an answer was wrong. */
    void end() {
        System.out.println(title + ": " + asked + " answers, " + wrong + " wrong");
        if (wrong != 0 || asked == 0) {
            System.exit(1);
        }
    }
}
