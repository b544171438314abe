import com.sun.management.ThreadMXBean;
import java.lang.management.ManagementFactory;
import java.util.function.LongSupplier;

/**
 * All calls of one run live in one room, and nothing that was made leaves it: so the dearest calls may make a small
 * object or none. What a pool makes is counted in bytes, of which an element or a field takes at least one.
 */
public final class RoomTest {
    private static final ThreadMXBean THREADS = (ThreadMXBean) ManagementFactory.getThreadMXBean();
    private static final int CALLS = 400;
    /** A storm of seven numbers takes 48 bytes at most. */
    private static final int MOST_A_CALL = 64;
    private static final int MOST_A_POOL = 16384;

    public static void main(String[] args) {
        if (!THREADS.isThreadAllocatedMemorySupported() || !THREADS.isThreadAllocatedMemoryEnabled()) {
            System.out.println("RoomTest is left out: this machine does not count what a thread makes");
            return;
        }
        HailPool pool = Land.full();
        dearest("P18 worst", () -> pool.worst(5, 20));
        HailPool advised = Land.full();
        dearest("P19 advise", () -> advised.advise(10, 5, 20));
        HailPool asked = Land.full();
        dearest("P17 wouldBe", () -> asked.wouldBe(0, 10, 1, 0, 5, 20, 30, 3));
        HailPool summed = Land.full();
        dearest("P21 digest", summed::digest);
        HailPool aged = Land.full();
        dearest("P14 endYear", aged::endYear);
        HailPool counted = Land.full();
        dearest("P13 count", () -> counted.count(10));
        storms();
        newPool();
        Check.finish();
    }

    private static long made() {
        return THREADS.getThreadAllocatedBytes(Thread.currentThread().getId());
    }

    private static void dearest(String name, LongSupplier call) {
        call.getAsLong();
        long before = made();
        for (int i = 1; i < CALLS; i++) {
            call.getAsLong();
        }
        atMost(name, made() - before, (long) MOST_A_CALL * CALLS);
    }

    private static void storms() {
        HailPool pool = Land.full();
        pool.endYear();
        long before = made();
        for (int i = 0; i < CALLS; i++) {
            if (i % 31 == 30) {
                pool.endYear();
            } else {
                pool.storm(0, i % 20, 1, 0, 5, 20, 30);
            }
        }
        atMost("P15 storm", made() - before, (long) MOST_A_CALL * CALLS);
    }

    private static void newPool() {
        new HailPool();
        long before = made();
        HailPool pool = new HailPool();
        atMost("P1 a new pool", made() - before, MOST_A_POOL);
        Check.due("P1 and it is a pool", pool.count(0), 0);
    }

    private static void atMost(String name, long bytes, long most) {
        if (bytes > most) {
            Check.fault(name + " made " + bytes + " bytes, at most " + most + " are due");
        }
    }
}
