import java.lang.management.ManagementFactory;

/** What runs of 512 calls on one object make: the rows are made once, so it must stay small. */
public final class RoomRuns {
    /** Eleven kept states and the rest of the object take some 60,000 bytes. */
    private static final long LIMIT = 150_000;
    private static final int CALLS = 512;

    interface Calls {
        void call(CheckpointSwap x, int k);
    }

    private static int wrong;

    public static void main(String[] args) {
        for (int round = 0; round < 2; round++) {
            measure("writePage", (x, k) -> x.writePage(k % 6, k % 8, k));
            measure("readPage", (x, k) -> x.readPage(k % 6, k % 8));
            measure("runScript", (x, k) -> {
                x.appendText(0x63726173, 0x683b6372, 0x6173683b, 0x72656164, 0x20302031);
                x.runScript();
            });
            measure("crash and undo", (x, k) -> {
                if (k % 2 == 0) {
                    x.crash();
                } else {
                    x.undo();
                }
            });
            measure("parseSystem", (x, k) -> x.parseSystem());
            measure("writeReport", (x, k) -> x.writeReport());
            measure("leastFrames", (x, k) -> x.leastFrames(64));
            measure("bestBarrier", (x, k) -> x.bestBarrier(48));
            measure("wouldFree", (x, k) -> x.wouldFree(63));
            measure("freeSlot", (x, k) -> x.freeSlot(20));
            measure("hottestPage", (x, k) -> x.hottestPage());
        }
        System.out.println("runs of " + CALLS + " calls, " + wrong + " too large");
        if (wrong != 0) {
            System.exit(1);
        }
    }

    private static void measure(String what, Calls calls) {
        com.sun.management.ThreadMXBean threads =
                (com.sun.management.ThreadMXBean) ManagementFactory.getThreadMXBean();
        long thread = Thread.currentThread().getId();
        String text = "system 16 48 lru;process int 8;process int 8;process int 8;process int 8;process int 8;process int 8;";
        long before = threads.getThreadAllocatedBytes(thread);
        CheckpointSwap filled = Check.system(text);
        for (int k = 0; k < 20; k++) {
            filled.writePage(k % 6, k % 8, k);
        }
        for (int k = 0; k < CALLS; k++) {
            calls.call(filled, k);
        }
        long made = threads.getThreadAllocatedBytes(thread) - before;
        if (made > LIMIT) {
            wrong++;
            System.out.println(what + ": " + CALLS + " calls made " + made + " bytes");
        }
    }
}
