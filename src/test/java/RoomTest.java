import java.lang.management.ManagementFactory;

/** All calls of a run live in one room, so the dearest calls must make no objects. */
final class RoomTest {
    /** Seven calls each time, and 150 to make the queue: an object has 512. */
    private static final int TIMES = 50;
    /** Below one smallest object for each call. */
    private static final long MOST_BYTES = 4000;

    private RoomTest() {
    }

    public static void main(String[] args) {
        dearCalls(1);
        long before = allocated();
        ConsentQueue queue = newFullQueue();
        long made = allocated() - before;
        Expect.holds("a queue takes " + made + " bytes", made < 20_000);
        before = allocated();
        dearCalls(queue, TIMES);
        made = allocated() - before;
        Expect.holds(7 * TIMES + " calls take " + made + " bytes", made < MOST_BYTES);
        Expect.finish();
    }

    private static ConsentQueue newFullQueue() {
        ConsentQueue queue = new ConsentQueue();
        for (int i = 0; i < 10; i++) {
            queue.join(10 * i, 30 - i);
        }
        for (int i = 0; i < 140; i++) {
            queue.type("settle;".charAt(i % 7));
        }
        return queue;
    }

    /** Makes the machine load all that it needs, outside of the measure. */
    private static void dearCalls(int times) {
        dearCalls(newFullQueue(), times);
        allocated();
    }

    private static void dearCalls(ConsentQueue queue, int times) {
        for (int i = 0; i < times; i++) {
            queue.bestLie(i % 10);
            queue.settledPlace(0);
            queue.honestCost();
            queue.runCommands();
            queue.settle();
            queue.digest();
            queue.undo();
        }
    }

    private static long allocated() {
        com.sun.management.ThreadMXBean threads =
                (com.sun.management.ThreadMXBean) ManagementFactory.getThreadMXBean();
        return threads.getCurrentThreadAllocatedBytes();
    }
}
