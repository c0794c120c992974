import com.sun.management.ThreadMXBean;
import java.lang.management.ManagementFactory;

/** Only the constructor takes room; the calls behind it make no object. */
public final class RoomTest {
    private static final ThreadMXBean THREADS = (ThreadMXBean) ManagementFactory.getThreadMXBean();
    private static final long MOST_FOR_A_NEW_OBJECT = 20000;
    /** For what the virtual machine itself may take in the test's thread. */
    private static final long MOST_FOR_ALL_CALLS = 2000;

    public static void main(String[] args) {
        Check t = new Check();
        useAll(new StableSale());

        long before = taken();
        StableSale x = new StableSale();
        long made = taken() - before;
        if (made > MOST_FOR_A_NEW_OBJECT) {
            t.report("a new object takes " + made + " bytes");
        }
        before = taken();
        useAll(x);
        long used = taken() - before;
        if (used > MOST_FOR_ALL_CALLS) {
            t.report("the calls take " + used + " bytes");
        }
        t.end();
    }

    private static long taken() {
        return THREADS.getThreadAllocatedBytes(Thread.currentThread().getId());
    }

    private static void useAll(StableSale x) {
        for (int c = 1; c <= 4; c++) {
            x.preferred(10 * c, 100, c - 1, c % 3, 100 * c, c % 3);
            x.issue(c, c, 100, 20);
        }
        x.pool(1000);
        x.grant(0, 1000, 0, 60);
        // With the ten calls before and the one behind, nearly the 512 that an object is used for.
        for (int i = 0; i < 50; i++) {
            x.issue(0, 0, 10, 30 - i / 2);
            x.transfer(0, 0, 1, 5);
            x.convert(1, 1, 1);
            x.pass(1);
            x.exercise(0, 10);
            x.set(1000 * i);
            x.gets(1000 * i, 15, 0);
            x.brings(1000 * i, 1);
            x.flip(i, 2000000000);
            x.undo();
        }
        x.leave(0);
    }
}
