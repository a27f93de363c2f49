import java.lang.management.ManagementFactory;

/** All calls of one run live in one room: what 512 of the dearest calls make must stay far below it. */
public final class RoomTest {
    private static final long MOST_BYTES = 4_000_000;

    public static void main(String[] args) {
        com.sun.management.ThreadMXBean threads = (com.sun.management.ThreadMXBean) ManagementFactory.getThreadMXBean();
        long thread = Thread.currentThread().getId();
        long before = threads.getThreadAllocatedBytes(thread);
        long answers = dearCalls();
        long made = threads.getThreadAllocatedBytes(thread) - before;
        System.out.println("512 dear calls made " + made + " bytes");
        Due.holds("512 calls make at most " + MOST_BYTES + " bytes, made " + made, made <= MOST_BYTES);
        Due.holds("the calls were answered", answers != 0);
        Due.end("RoomTest");
    }

    /** Every call of a base and a table is followed by calls that must find all anew. */
    private static long dearCalls() {
        FigurePlay x = new FigurePlay();
        long answers = 0;
        for (int k = 0; k < 32; k++) {
            answers += x.base(2 + k % 15) + x.table(k % 16, 99999 - 1000 * k);
            answers += x.rounds(0, 20000, -1) + x.rounds(3, 20000, -1);
            for (int step = 0; step < 6; step++) {
                answers += x.lost(step, 3000, -1);
            }
            answers += x.withAll(199, 255 & (1 << 2 + k % 15) - 1, -1) + x.summed(299, 59, -1) + x.few(1999, 3, -1);
            answers += x.narrow(6, 6, -1) + x.made(9999) + x.bare(20000, -1);
        }
        return answers;
    }
}
