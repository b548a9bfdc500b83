import com.sun.management.ThreadMXBean;
import java.lang.management.ManagementFactory;
import java.util.Random;

/** What 512 dear calls make stays far below the room of one run. */
public final class RoomTest {
    private static final long MOST_BYTES = 400_000;
    /** Two less than the 512 that an object is used for: they are asked by at the end. */
    private static final int MOST_CALLS = 510;
    private static final int VARIABLES = 24;
    private static final int CLAUSES_OF_A_TEXT = 40;
    private static final ThreadMXBean THREADS = (ThreadMXBean) ManagementFactory.getThreadMXBean();

    private final LearntReasons x = new LearntReasons();
    private int calls;

    private static long made() {
        return THREADS.getThreadAllocatedBytes(Thread.currentThread().getId());
    }

    /** A text of random clauses as the numbers that feed takes, made ahead of what is measured. */
    private static int[] textOfClauses(Random random) {
        StringBuilder b = new StringBuilder();
        for (int i = 0; i < CLAUSES_OF_A_TEXT; i++) {
            int first = 1 + random.nextInt(VARIABLES / 3);
            for (int v = first; v <= VARIABLES; v += VARIABLES / 3) {
                b.append(random.nextBoolean() ? "-" : " ").append(v);
            }
            b.append(";");
        }
        int[] numbers = new int[100];
        for (int i = 0; i < 400; i++) {
            numbers[i / 4] = numbers[i / 4] << 8 | (i < b.length() ? b.charAt(i) : ' ');
        }
        return numbers;
    }

    private void tell(int[] numbers) {
        for (int i = 0; i < numbers.length; i += 5) {
            x.feed(numbers[i], numbers[i + 1], numbers[i + 2], numbers[i + 3], numbers[i + 4]);
            calls++;
        }
        x.tell();
        calls++;
    }

    private void callAll(int i) {
        x.unit(i % 3);
        x.solve(200);
        x.keep(i % 2);
        x.forget(1 + i % 3);
        x.feed(0x313B2D32, 0x3B3B313B, 0x3B3B3B3B, 0x3B3B3B3B, 0x3B3B3B3B);
        x.refute();
        x.feed(0x67726F77, 0x20333B20, 0x20202020, 0x20202020, 0x0A0A0A0A);
        x.tell();
        x.proof();
        x.follows(LearntReasons.NONE);
        x.models();
        x.assume(i % VARIABLES + 1);
        x.back(i % 2);
        calls += 13;
    }

    private void run(int[] text, int[] another) {
        x.grow(VARIABLES);
        calls++;
        tell(text);
        tell(another);
        for (int i = 0; calls + 13 <= MOST_CALLS; i++) {
            callAll(i);
        }
    }

    public static void main(String[] args) {
        Random random = new Random(7);
        int[] text = textOfClauses(random);
        int[] another = textOfClauses(random);
        new RoomTest().run(text, another);
        long before = made();
        RoomTest measured = new RoomTest();
        measured.run(text, another);
        long bytes = made() - before;
        boolean hard = measured.x.count(2) == 2 * CLAUSES_OF_A_TEXT && measured.x.count(1) > 2 * CLAUSES_OF_A_TEXT;
        System.out.println("RoomTest: a run made " + bytes + " bytes"
            + (bytes <= MOST_BYTES ? "" : ", more than " + MOST_BYTES) + (hard ? "" : ", but learnt nothing"));
        if (!hard || bytes > MOST_BYTES) {
            System.exit(1);
        }
    }
}
