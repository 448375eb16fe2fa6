import com.sun.management.ThreadMXBean;
import java.lang.management.ManagementFactory;

/** The room of one run: what an object and all its calls make stays far below what a run may make. */
public final class RoomTest {
    private static final int CALLS = 512;
    private static final long MOST_BYTES = 30_000_000;

    private RoomTest() {
    }

    public static void main(String[] args) {
        ThreadMXBean threads = (ThreadMXBean) ManagementFactory.getThreadMXBean();
        long thread = Thread.currentThread().getId();
        for (int dearest = 0; dearest < 8; dearest++) {
            long before = threads.getThreadAllocatedBytes(thread);
            run(dearest);
            long made = threads.getThreadAllocatedBytes(thread) - before;
            Due.holds("run " + dearest + " made " + made + " bytes", made < MOST_BYTES);
        }
        Due.end();
    }

    /** An object of the greatest house, to the last of its calls. */
    private static void run(int dearest) {
        String letters = "g4 3;f1;n0 60 0 23;n5 50 0 23;n11 99 0 23;s9 1 1 1;s8 1 1 1;s7 1 1 1;s6 1 1 1;"
            + "r3 0 23 30;r8 0 23 0;r6 0 23 0;";
        QuietByYard yard = Due.told(letters);
        for (int i = letters.length() + 1; i < CALLS; i++) {
            ask(yard, dearest);
        }
    }

    private static void ask(QuietByYard yard, int dearest) {
        switch (dearest) {
            case 0 -> yard.toBuy(QuietByYard.NONE);
            case 1 -> yard.through(0);
            case 2 -> yard.sources();
            case 3 -> yard.hour();
            case 4 -> yard.house();
            case 5 -> yard.way(0, 11, 1);
            case 6 -> yard.keep(1);
            default -> yard.mayBe();
        }
    }
}
