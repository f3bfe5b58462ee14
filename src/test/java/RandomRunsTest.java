import java.util.Random;

/** Long runs of calls drawn from fixed seeds, on the program and on the model. */
public final class RandomRunsTest {
    private static final int RUNS = 1500;
    private static final String LETTERS = "n+twz;0123456789 -";
    private static final String[] CHANGES = {"level", "adds", "adds", "applies", "applies", "applies", "walks", "back"};
    private static final int[] EDGES = {Integer.MIN_VALUE, Integer.MAX_VALUE, -1000, 1000, -9999, 10000, 128, 121};

    private final Random random;
    private final Both both;

    private RandomRunsTest(Due due, long seed) {
        random = new Random(seed);
        both = new Both(due);
    }

    public static void main(String[] args) {
        Due due = new Due("RandomRunsTest");
        for (int run = 0; run < RUNS; run++) {
            new RandomRunsTest(due, run).run(run % 5);
        }
        due.end();
    }

    private void run(int kind) {
        while (both.left() > 130) {
            switch (kind) {
                case 0: anyCall(); break;
                case 1: changes(); break;
                case 2: text(goodText()); break;
                case 3: text(damaged(goodText())); break;
                default: growth(); break;
            }
        }
        for (int what = 0; what <= 5; what++) {
            both.call("told", what);
        }
        both.call("digest");
    }

    private void anyCall() {
        String name = Calls.NAMES[random.nextInt(Calls.NAMES.length)];
        int[] a = new int[Calls.arguments(name)];
        for (int k = 0; k < a.length; k++) {
            a[k] = argument();
        }
        if (name.equals("type") && random.nextInt(4) > 0) {
            a[0] = LETTERS.charAt(random.nextInt(LETTERS.length()));
        }
        both.call(name, a);
    }

    private int argument() {
        int kind = random.nextInt(20);
        if (kind < 12) {
            return random.nextInt(9);
        }
        if (kind < 17) {
            return random.nextInt(30) - 2;
        }
        return kind < 19 ? random.nextInt(260) - 130 : EDGES[random.nextInt(EDGES.length)];
    }

    private void changes() {
        String name = CHANGES[random.nextInt(CHANGES.length)];
        both.call(name, changeArguments(name));
        if (random.nextInt(3) == 0) {
            both.call("digest");
            both.call("sum", random.nextInt(10), random.nextInt(2));
            both.call("boundary", random.nextInt(8), random.nextInt(2));
        }
    }

    private int[] changeArguments(String name) {
        switch (name) {
            case "level": return new int[] {random.nextInt(27)};
            case "adds": return new int[] {random.nextInt(20), random.nextInt(2003) - 1001};
            case "applies": return new int[] {random.nextInt(8) + (random.nextInt(9) == 0 ? 1 : 0)};
            case "walks": return new int[] {random.nextInt(101), random.nextInt(101)};
            default: return new int[0];
        }
    }

    /** One level, and operators applied until the range ends. */
    private void growth() {
        both.call("level", 1 + random.nextInt(25));
        for (int k = 0; k < 40; k++) {
            if (random.nextInt(3) == 0) {
                both.call("adds", random.nextInt(8), random.nextInt(1999) - 999);
            } else {
                both.call("applies", 2 + random.nextInt(6));
            }
            if (random.nextInt(8) == 0) {
                both.call("walks", random.nextInt(100), 1 + random.nextInt(99));
                both.call("back");
            }
        }
        both.call("digest");
    }

    private void text(String text) {
        both.call("clear");
        both.type(text.length() > 121 ? text.substring(0, 121) : text);
        both.call("reads");
        both.call("digest");
        if (random.nextInt(3) == 0) {
            both.call("reads");
            both.call("back");
        }
    }

    private String goodText() {
        StringBuilder text = new StringBuilder();
        int commands = random.nextInt(12);
        for (int k = 0; k < commands; k++) {
            text.append(blanks());
            command(text);
            text.append(blanks()).append(';');
        }
        return text.append(blanks()).toString();
    }

    private void command(StringBuilder text) {
        switch (random.nextInt(5)) {
            case 0: text.append('n').append(blanks()).append(1 + random.nextInt(25)); break;
            case 1:
                text.append('+').append(blanks()).append(random.nextInt(1999) - 999).append(' ').append(blanks());
                text.append(random.nextInt(random.nextInt(4) == 0 ? 30 : 3));
                break;
            case 2: text.append('t').append(blanks()).append(1 + random.nextInt(7)); break;
            case 3:
                text.append('w').append(blanks()).append(random.nextInt(100)).append(' ').append(blanks());
                text.append(String.format("%0" + (1 + random.nextInt(3)) + "d", 1 + random.nextInt(99)));
                break;
            default: text.append('z'); break;
        }
    }

    private String blanks() {
        return "  ".substring(0, random.nextInt(8) == 0 ? 1 + random.nextInt(2) : 0);
    }

    private String damaged(String text) {
        StringBuilder result = new StringBuilder(text);
        for (int k = random.nextInt(3); k > 0; k--) {
            int place = random.nextInt(result.length() + 1);
            char letter = random.nextInt(12) == 0 ? (char) random.nextInt(128)
                    : LETTERS.charAt(random.nextInt(LETTERS.length()));
            int kind = random.nextInt(4);
            if (kind == 0) {
                result.setLength(place);
            } else if (kind == 1 || place == result.length()) {
                result.insert(place, letter);
            } else if (kind == 2) {
                result.deleteCharAt(place);
            } else {
                result.setCharAt(place, letter);
            }
        }
        return result.toString();
    }
}
