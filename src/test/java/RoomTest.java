import com.sun.management.ThreadMXBean;
import java.lang.management.ManagementFactory;

/** The room that all calls of a run share: an object is small, and its calls make next to nothing. */
public final class RoomTest {
    private static final int CALLS = 512;
    private static final long OBJECT_BYTES = 16_384;
    private static final long RUN_BYTES = 65_536;
    private static final ThreadMXBean THREADS = (ThreadMXBean) ManagementFactory.getThreadMXBean();

    public static void main(String[] args) {
        Check check = new Check();
        if (THREADS.isThreadAllocatedMemorySupported() && THREADS.isThreadAllocatedMemoryEnabled()) {
            // The first run also pays for what the machine makes of the classes.
            run(new NonceBox());
            long before = THREADS.getCurrentThreadAllocatedBytes();
            NonceBox box = new NonceBox();
            long made = THREADS.getCurrentThreadAllocatedBytes();
            run(box);
            long after = THREADS.getCurrentThreadAllocatedBytes();
            check.that("a new object takes " + (made - before) + " bytes", made - before < OBJECT_BYTES);
            check.that(CALLS + " calls take " + (after - made) + " bytes", after - made < RUN_BYTES);
        }
        check.end();
    }

    private static void run(NonceBox box) {
        box.length(96);
        for (int i = 0; i < CALLS / 8 - 1; i++) {
            box.put(2, 0, 9 + i);
            box.box();
            box.move(3);
            box.unbox();
            box.move(3);
            box.tag();
            box.mix();
            box.stream(112);
        }
    }
}
