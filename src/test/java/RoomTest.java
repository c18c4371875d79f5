import com.sun.management.ThreadMXBean;
import java.lang.management.ManagementFactory;

/** What a run of 512 calls makes stays far below the room that all calls share. */
public final class RoomTest {
    // A million elements of eight bytes, of the 7.3 million that there are for all.
    private static final long MOST_BYTES = 8_000_000;
    private static final int CALLS = 512;

    public static void main(String[] args) {
        Check check = new Check("RoomTest");
        ThreadMXBean threads = (ThreadMXBean) ManagementFactory.getThreadMXBean();
        long thread = Thread.currentThread().getId();
        growing();
        long before = threads.getThreadAllocatedBytes(thread);
        growing();
        long made = threads.getThreadAllocatedBytes(thread) - before;
        check.yes("tables that grow, " + made + " bytes", made < MOST_BYTES);
        before = threads.getThreadAllocatedBytes(thread);
        again();
        made = threads.getThreadAllocatedBytes(thread) - before;
        check.yes("the largest run again and again, " + made + " bytes", made < MOST_BYTES);
        check.done();
    }

    /** A run behind each row, so that each is a little larger than the one before. */
    private static void growing() {
        QueryRunner q = Make.sized(0, 0);
        q.item(q.column(0, 0));
        for (int calls = 10; calls + 3 < CALLS; calls += 3) {
            q.add(0);
            q.add(1);
            q.run();
        }
    }

    private static void again() {
        QueryRunner q = Make.sized(40, 25, 2);
        q.distinct(true);
        for (int i = 0; i < 8; i++) {
            q.item(q.column(i % 3, 0));
        }
        q.order(2, true);
        for (int calls = 170; calls < CALLS; calls++) {
            q.run();
        }
    }
}
