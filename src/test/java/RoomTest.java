import com.sun.management.ThreadMXBean;
import java.lang.management.ManagementFactory;
import java.util.Random;

/** What 512 dear calls make stays far below the room of one run. */
public final class RoomTest {
    private static final long MOST_BYTES = 400_000;
    private static final ThreadMXBean THREADS = (ThreadMXBean) ManagementFactory.getThreadMXBean();

    private static long made() {
        return THREADS.getThreadAllocatedBytes(Thread.currentThread().getId());
    }

    private static LearntReasons hardProblem(Random random) {
        LearntReasons x = new LearntReasons();
        x.grow(24);
        for (int i = 0; i < 80; i++) {
            for (int k = 0; k < 3; ) {
                int v = 1 + random.nextInt(24);
                k += x.add(random.nextBoolean() ? v : -v) > 0 ? 1 : 0;
            }
            x.close();
        }
        return x;
    }

    private static void callAll(LearntReasons x, int i) {
        x.unit(i % 3);
        x.solve(200);
        x.keep(i % 2);
        x.forget(1 + i % 3);
        x.feed(0x313B2D32, 0x3B3B313B, 0x3B3B3B3B, 0x3B3B3B3B, 0x3B3B3B3B);
        x.refute();
        x.feed(0x67726F77, 0x20333B20, 0x20202020, 0x20202020, 0x0A0A0A0A);
        x.tell();
        x.proof();
        x.follows(NONE_AT);
        x.models();
        x.assume(i % 24 + 1);
        x.back(i % 2);
    }

    private static final int NONE_AT = -1;

    public static void main(String[] args) {
        callAll(hardProblem(new Random(1)), 1);
        Random random = new Random(7);
        long before = made();
        LearntReasons x = hardProblem(random);
        for (int i = 0; i < 39; i++) {
            callAll(x, i);
        }
        long bytes = made() - before;
        boolean fine = bytes <= MOST_BYTES;
        System.out.println("RoomTest: a run made " + bytes + " bytes" + (fine ? "" : ", more than " + MOST_BYTES));
        if (!fine) {
            System.exit(1);
        }
    }
}
