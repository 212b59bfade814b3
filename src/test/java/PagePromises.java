/** Promises 22 to 33: pages and frames. */
public final class PagePromises {
    public static void main(String[] args) {
        processes();
        values();
        floats();
        states();
        frames();
        victims();
        sets();
        Check.end(22, 33);
    }

    private static void processes() {
        CheckpointSwap x = Check.system("system 2 2 lru;process int 8;process float 1;process int 3;");
        Check.promise(22);
        Check.due("pages of 0", x.pageCount(0), 8);
        Check.due("pages of 1", x.pageCount(1), 1);
        Check.due("pages of 2", x.pageCount(2), 3);
        Check.outside("pages of 3", () -> x.pageCount(3));
        Check.outside("pages of -1", () -> x.pageCount(-1));
        Check.outside("pages of 6", () -> x.pageCount(6));
        Check.promise(23);
        Check.due("kind of 0", x.kindOf(0), 0);
        Check.due("kind of 1", x.kindOf(1), 1);
        Check.due("kind of 2", x.kindOf(2), 0);
        Check.outside("kind of 3", () -> x.kindOf(3));
        Check.outside("kind of -1", () -> x.kindOf(-1));
        Check.outside("kind of 7", () -> x.kindOf(7));
    }

    private static void values() {
        CheckpointSwap x = Check.system("system 1 2 lru;process int 2;process float 1;");
        Check.promise(24);
        Check.due("at first", x.peek(0, 1), 0);
        x.writePage(0, 1, -7);
        Check.due("resident", x.peek(0, 1), -7);
        x.evictPage(0, 1);
        Check.due("in a slot", x.peek(0, 1), -7);
        Check.due("no access", x.total(0), 1);
        Check.due("no change", x.undoDepth(), 2);
        Check.due("not resident", x.frameOf(0, 1), -1);
        Check.outside("no page", () -> x.peek(0, 2));
        Check.outside("no page", () -> x.peek(1, 1));
        Check.outside("no page", () -> x.peek(1, -1));
        Check.outside("no process", () -> x.peek(2, 0));
        Check.outside("no process", () -> x.peek(-1, 0));
    }

    private static void floats() {
        CheckpointSwap x = Check.system("system 1 2 lru;process int 1;process float 1;");
        Check.promise(25);
        int[] patterns = {0, 0x80000000, 1, 0x80000001, 0x007fffff, 0x00400000, 0x00800000, 0x00800001, 0x80ffffff,
            0x01000000, 0x3f800000, 0xbf800000, 0x3f7fffff, 0x4b000000, 0x4b7fffff, 0x4b800000, 0x4afffffe,
            0x7f7fffff, 0xff7fffff, 0x7f000000, 0x7f800000, 0xff800000, 0x7fc00000, 0x42f6e979, 0x33d6bf95};
        for (int pattern : patterns) {
            x.writePage(1, 0, pattern);
            int got = Float.floatToRawIntBits(x.peekFloat(1, 0));
            Check.due("float of " + Integer.toHexString(pattern), got, pattern);
        }
        int seed = 12345;
        for (int k = 0; k < 40000; k++) {
            seed = seed * 1664525 + 1013904223;
            int pattern = seed ^ seed >>> 13;
            x.writePage(1, 0, pattern);
            Check.due("float of " + pattern, Float.floatToIntBits(x.peekFloat(1, 0)),
                    Float.floatToIntBits(Float.intBitsToFloat(pattern)));
        }
        x.writePage(1, 0, 0x7f800001);
        Check.due("NaN", Float.isNaN(x.peekFloat(1, 0)) ? 1 : 0, 1);
        Check.unsupported("kind int", () -> (long) x.peekFloat(0, 0));
        Check.outside("the index counts first", () -> (long) x.peekFloat(0, 1));
        Check.outside("no page", () -> (long) x.peekFloat(1, 1));
        Check.outside("no process", () -> (long) x.peekFloat(2, 0));
        Check.outside("no process", () -> (long) x.peekFloat(-1, 0));
        int accesses = x.total(0);
        x.peekFloat(1, 0);
        Check.due("no access", x.total(0), accesses);
    }

    private static void states() {
        CheckpointSwap x = Check.system("system 2 3 lru;process int 2;process int 2;");
        Check.promise(26);
        Check.due("at first", x.pageState(1, 1), 0);
        x.readPage(1, 1);
        Check.due("clean without a slot", x.pageState(1, 1), 2);
        x.writePage(1, 1, 0);
        Check.due("dirty", x.pageState(1, 1), 3);
        x.evictPage(1, 1);
        Check.due("in a slot", x.pageState(1, 1), 1);
        x.readPage(1, 1);
        Check.due("clean with a slot", x.pageState(1, 1), 2);
        Check.due("others stay", x.pageState(0, 1), 0);
        Check.outside("no page", () -> x.pageState(1, 2));
        Check.outside("no process", () -> x.pageState(2, 0));
        Check.outside("negative", () -> x.pageState(0, -1));

        Check.promise(27);
        x.readPage(0, 1);
        Check.due("frame", x.frameOf(1, 1), 0);
        Check.due("frame", x.frameOf(0, 1), 1);
        Check.due("not resident", x.frameOf(0, 0), -1);
        Check.outside("no page", () -> x.frameOf(0, 2));
        Check.outside("no process", () -> x.frameOf(2, 0));
        Check.outside("negative", () -> x.frameOf(-1, 0));

        Check.promise(28);
        Check.due("slot", x.slotOf(1, 1), 0);
        Check.due("no slot", x.slotOf(0, 1), -1);
        x.writePage(0, 1, 3);
        x.evictPage(0, 1);
        Check.due("the next slot", x.slotOf(0, 1), 1);
        x.writePage(1, 1, 3);
        Check.due("lost", x.slotOf(1, 1), -1);
        Check.outside("no page", () -> x.slotOf(0, 2));
        Check.outside("no process", () -> x.slotOf(2, 0));
        Check.outside("negative", () -> x.slotOf(1, -2));
    }

    private static void frames() {
        CheckpointSwap x = Check.system("system 3 3 lru;process int 2;process int 8;");
        Check.promise(29);
        Check.due("free", x.frameOwner(2), -1);
        x.readPage(1, 7);
        x.writePage(0, 1, 2);
        Check.due("page", x.frameOwner(0), 15);
        Check.due("page", x.frameOwner(1), 1);
        Check.due("free", x.frameOwner(2), -1);
        x.evictPage(1, 7);
        Check.due("free again", x.frameOwner(0), -1);
        x.readPage(1, 2);
        Check.due("the lowest free one", x.frameOwner(0), 10);
        Check.outside("no frame", () -> x.frameOwner(3));
        Check.outside("no frame", () -> x.frameOwner(-1));
        Check.outside("no frame", () -> x.frameOwner(16));

        Check.promise(30);
        x.readPage(0, 1);
        Check.due("use", x.frameTime(1, 0), 4);
        Check.due("load", x.frameTime(1, 1), 2);
        Check.due("use", x.frameTime(0, 0), 3);
        Check.due("load", x.frameTime(0, 1), 3);
        Check.argument("what 2", () -> x.frameTime(1, 2));
        Check.argument("what -1", () -> x.frameTime(1, -1));
        Check.missing("free", () -> x.frameTime(2, 0));
        Check.missing("free counts before what", () -> x.frameTime(2, 2));
        Check.outside("no frame", () -> x.frameTime(3, 0));
        Check.outside("no frame counts first", () -> x.frameTime(-1, 5));
    }

    private static void victims() {
        CheckpointSwap x = Check.system("system 2 4 lru;process int 5;");
        Check.promise(31);
        Check.due("free", x.victim(), -1);
        x.writePage(0, 0, 1);
        Check.due("one is free", x.victim(), -1);
        x.readPage(0, 1);
        Check.due("least use time", x.victim(), 0);
        x.readPage(0, 0);
        Check.due("least use time", x.victim(), 1);
        x.setPolicy(1);
        Check.due("least load time", x.victim(), 0);
        x.readPage(0, 1);
        x.setPolicy(2);
        Check.due("the clean one", x.victim(), 1);
        x.writePage(0, 1, 2);
        Check.due("none is clean", x.victim(), 0);
        x.readPage(0, 0);
        Check.due("none is clean", x.victim(), 1);
        x.startBarrier(1);
        x.writeBarrier(1);
        Check.due("written for the barrier", x.victim(), 0);
        x.writeBarrier(1);
        Check.due("both are clean", x.victim(), 1);
        x.evictPage(0, 0);
        Check.due("free again", x.victim(), -1);
    }

    private static void sets() {
        CheckpointSwap x = Check.system("system 3 4 lru;process int 8;process int 2;");
        Check.promise(32);
        Check.due("none", x.residentPages(0), 0);
        x.readPage(0, 7);
        x.writePage(0, 0, 3);
        x.writePage(1, 1, 3);
        Check.due("two", x.residentPages(0), 129);
        Check.due("one", x.residentPages(1), 2);
        Check.outside("no process", () -> x.residentPages(2));
        Check.outside("no process", () -> x.residentPages(-1));
        Check.promise(33);
        Check.due("one", x.dirtyPages(0), 1);
        Check.due("one", x.dirtyPages(1), 2);
        x.writePage(0, 7, 0);
        Check.due("two", x.dirtyPages(0), 129);
        x.evictPage(0, 0);
        Check.due("evicted", x.dirtyPages(0), 128);
        x.startBarrier(3);
        x.writeBarrier(1);
        Check.due("written", x.dirtyPages(0), 0);
        Check.due("not yet", x.dirtyPages(1), 2);
        x.crash();
        Check.due("crashed", x.dirtyPages(1), 0);
        Check.outside("no process", () -> x.dirtyPages(2));
        Check.outside("no process", () -> x.dirtyPages(-1));
        Check.promise(32);
        Check.due("crashed", x.residentPages(0), 0);
    }
}
