import java.lang.management.ManagementFactory;

/**
 * All calls of one run live in one room of some 600,000 objects and 7.3 million fields: the dearest
 * calls that an object is good for take a small part of it.
 */
public final class RoomTest {
    private static final int CALLS = 250;
    private static final long MOST_BYTES = 2_000_000;

    private final Check check = new Check();
    private final com.sun.management.ThreadMXBean threads =
        (com.sun.management.ThreadMXBean) ManagementFactory.getThreadMXBean();

    public static void main(String[] args) {
        RoomTest test = new RoomTest();
        test.check.part("room");
        for (int kind = 0; kind < 16; kind++) {
            test.measure(kind);
        }
        test.check.finish("RoomTest");
    }

    private void measure(int kind) {
        long before = threads.getCurrentThreadAllocatedBytes();
        Used x = new Used();
        x.fills(255, 1, 0);
        x.fills(127, 2, 1);
        for (int times = 0; times < CALLS; times++) {
            call(x, kind, times);
        }
        long taken = threads.getCurrentThreadAllocatedBytes() - before;
        check.holds(CALLS + " calls of kind " + kind + " take " + taken + " bytes", taken < MOST_BYTES);
    }

    private static void call(Used x, int kind, int times) {
        switch (kind) {
            case 0 -> x.turned(0, 255, 2);
            case 1 -> x.appends(1, 1, 2);
            case 2 -> x.heaps(0, 2);
            case 3 -> x.parts(0, 100, 2, 3);
            case 4 -> x.fills(255, 1, 2);
            case 5 -> x.reverses(0, 2);
            case 6 -> x.sorts(0, 2);
            case 7 -> x.merges(1, 1, 2);
            case 8 -> x.mirrors(0, 2);
            case 9 -> x.adds(0, 0, 255, 1, 2);
            case 10 -> x.nodes();
            case 11 -> x.occurs(0, 1);
            case 12 -> x.written(0, times);
            case 13 -> x.pop(0, 2);
            case 14 -> {
                x.sign(0x28312E2E);
                x.grows(2);
            }
            default -> x.numbers(0, times % 256);
        }
    }
}
