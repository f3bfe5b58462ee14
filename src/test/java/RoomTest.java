import com.sun.management.ThreadMXBean;
import java.lang.management.ManagementFactory;

/** What the dearest runs of 512 calls make in all stays far below the room of 7.3 million elements. */
public final class RoomTest {
    /** Two million bytes hold at most 250,000 long numbers, or some 125,000 empty objects. */
    private static final long MOST_BYTES = 2000000;
    private static final ThreadMXBean THREADS = (ThreadMXBean) ManagementFactory.getThreadMXBean();

    public static void main(String[] args) {
        Due due = new Due("RoomTest");
        everything();
        due.holds("every level with all its operators", made(0) < MOST_BYTES);
        due.holds("levels by commands", made(1) < MOST_BYTES);
        due.holds("the same query again and again", made(2) < MOST_BYTES);
        due.end();
    }

    private static long made(int kind) {
        long before = THREADS.getCurrentThreadAllocatedBytes();
        if (kind == 0) {
            everything();
        } else if (kind == 1) {
            commands();
        } else {
            queries();
        }
        long bytes = THREADS.getCurrentThreadAllocatedBytes() - before;
        System.out.println("RoomTest: run " + kind + " made " + bytes + " bytes");
        return bytes;
    }

    private static void everything() {
        PairSymbols x = new PairSymbols();
        for (int level = 1; level <= 25; level++) {
            x.level(level);
            for (int n = 1; n <= 7; n++) {
                x.polynomial(n, 0, 0);
                x.root(n, 1);
            }
            x.walks(34, 55);
            x.adds(0, 1);
            x.formula(level + 35, 5);
            x.digest();
        }
    }

    private static void commands() {
        PairSymbols x = new PairSymbols();
        String text = "n24;t5;n23;t6;n22;t7;n21;t5;n20;t7;n19;t6;n18;t7;n17;t6;n16;t7;n15;t7;n14;t5;n13;t6;n12;t7;";
        for (int k = 0; k < text.length(); k++) {
            x.type(text.charAt(k));
        }
        for (int k = text.length() + 1; k < 512; k++) {
            x.reads();
        }
    }

    private static void queries() {
        PairSymbols x = new PairSymbols();
        x.level(24);
        for (int k = 0; k < 170; k++) {
            x.root(5, k % 17 - 8);
            x.polynomial(7, 0, k % 10);
            x.formula(60 - k % 60, 5);
        }
    }
}
