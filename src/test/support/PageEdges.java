/** Promises 22 to 33: pages and frames. */
final class PageEdges {
    private PageEdges() {
    }

    static void run() {
        processes();
        values();
        floats();
        states();
        frames();
        slots();
        owners();
        times();
        victims();
        sets();
    }

    private static void processes() {
        Document.promise(22, "Returns the number of pages of a process.", "Returns 1 to 8.");
        CheckpointSwap x = Check.system("system 1 1 lru;process int 1;process float 8;process int 2;process float 7;"
                + "process int 3;process float 1;");
        int[] pages = {1, 8, 2, 7, 3, 1};
        for (int process = 0; process < 6; process++) {
            Check.due("pages of " + process, x.pageCount(process), pages[process]);
        }
        Check.outside("pages of 6", () -> x.pageCount(6));
        Document.promise(22, "Throws `IndexOutOfBoundsException` if there is no such process");
        Refusal.noProcess((y, p) -> y.pageCount(p));
        Document.promise(23, "Returns the kind of a process.", "Returns 0 or 1.");
        for (int process = 0; process < 6; process++) {
            Check.due("kind of " + process, x.kindOf(process), process % 2);
        }
        Check.outside("kind of 6", () -> x.kindOf(6));
        Document.promise(23, "Throws `IndexOutOfBoundsException` if there is no such process");
        Refusal.noProcess((y, p) -> y.kindOf(p));
    }

    private static void values() {
        Document.promise(24, "Returns the value of a page without an access.", "Returns the value.");
        CheckpointSwap x = Check.system("system 1 2 lru;process int 8;process int 1;process int 1;process int 1;"
                + "process int 1;process float 8;");
        x.writePage(0, 0, Integer.MIN_VALUE);
        x.writePage(5, 7, -1);
        String before = Snapshot.of(x);
        Check.due("in a slot", x.peek(0, 0), Integer.MIN_VALUE);
        Check.due("in a frame", x.peek(5, 7), 0x7fc00000);
        Check.due("in neither", x.peek(5, 6), 0);
        Check.dueText("no access", Snapshot.of(x), before);
        Document.promise(24, "Throws `IndexOutOfBoundsException` if there is no such process or page");
        Refusal.noPage((y, p, v) -> y.peek(p, v));
    }

    private static void floats() {
        Document.promise(25, "Returns the float whose bit pattern is the value of a page, without an access.",
                "Returns the float.");
        CheckpointSwap x = Check.system("system 1 2 lru;process int 1;process float 8;");
        int[] patterns = {0, 0x80000000, 1, 0x80000001, 0x007fffff, 0x807fffff, 0x00800000, 0x80800000, 0x00800001,
            0x00ffffff, 0x01000000, 0x3f7fffff, 0x3f800000, 0x3f800001, 0x4b7fffff, 0x4b800000, 0x4b800001, 0x7effffff,
            0x7f000000, 0x7f7fffff, 0xff7fffff, 0x7f800000, 0xff800000, 0x7fc00000};
        for (int pattern : patterns) {
            x.writePage(1, 7, pattern);
            String before = Snapshot.of(x);
            Check.due("float of " + Integer.toHexString(pattern), Float.floatToRawIntBits(x.peekFloat(1, 7)), pattern);
            Check.dueText("no access", Snapshot.of(x), before);
        }
        for (int exponent = 0; exponent < 255; exponent++) {
            x.writePage(1, 0, exponent << 23 | 0x2aaaab);
            Check.due("exponent " + exponent, Float.floatToRawIntBits(x.peekFloat(1, 0)), exponent << 23 | 0x2aaaab);
        }
        for (int bit = 0; bit < 23; bit++) {
            x.writePage(1, 0, 1 << bit);
            Check.due("bit " + bit, Float.floatToRawIntBits(x.peekFloat(1, 0)), 1 << bit);
        }
        x.writePage(1, 0, 0xff800001);
        Check.due("NaN", Float.isNaN(x.peekFloat(1, 0)) ? 1 : 0, 1);
        Document.promise(25, "Throws `IndexOutOfBoundsException` if there is no such process or page");
        Refusal.noPage((y, p, v) -> (long) y.peekFloat(p, v));
        Document.promise(25, "UnsupportedOperationException if the process is not of the kind float");
        Refusal.unsupported("process 0", Scenes::quiet, y -> (long) y.peekFloat(0, 0));
        Refusal.unsupported("process 2", Scenes::quiet, y -> (long) y.peekFloat(2, 0));
        Check.due("process 1", (long) Scenes.quiet().peekFloat(1, 1), 1);
    }

    private static void states() {
        Document.promise(26, "Returns the state of a page.", "Returns 0: not resident and without a swap slot;");
        CheckpointSwap x = Check.system("system 1 2 lru;process int 1;process int 8;");
        Check.due("at first", x.pageState(1, 7), 0);
        x.readPage(1, 7);
        x.evictPage(1, 7);
        Check.due("read and evicted", x.pageState(1, 7), 0);
        Document.promise(26, "1: not resident, with a swap slot;");
        x.writePage(1, 7, 0);
        x.evictPage(1, 7);
        Check.due("written and evicted", x.pageState(1, 7), 1);
        Document.promise(26, "2: resident and clean;");
        x.readPage(0, 0);
        Check.due("without a slot", x.pageState(0, 0), 2);
        x.readPage(1, 7);
        Check.due("with a slot", x.pageState(1, 7), 2);
        Document.promise(26, "3: resident and dirty.");
        x.writePage(1, 7, 0);
        Check.due("written", x.pageState(1, 7), 3);
        x.startBarrier(2);
        Check.due("still to be written", x.pageState(1, 7), 3);
        x.writeBarrier(1);
        Check.due("clean again", x.pageState(1, 7), 2);
        Document.promise(26, "Throws `IndexOutOfBoundsException` if there is no such process or page");
        Refusal.noPage((y, p, v) -> y.pageState(p, v));
    }

    private static void frames() {
        Document.promise(27, "Returns the frame of a page.", "Returns number of the frame;");
        CheckpointSwap x = Check.system("system 16 2 lru;process int 8;process int 8;process int 1;");
        for (int k = 0; k < 16; k++) {
            x.readPage(k / 8, k % 8);
            Check.due("frame of " + k, x.frameOf(k / 8, k % 8), k);
        }
        Document.promise(27, "NONE if it is not resident.");
        Check.due("never accessed", x.frameOf(2, 0), -1);
        x.evictPage(0, 0);
        Check.due("evicted", x.frameOf(0, 0), -1);
        x.crash();
        Check.due("crashed", x.frameOf(1, 7), -1);
        Document.promise(27, "Throws `IndexOutOfBoundsException` if there is no such process or page");
        Refusal.noPage((y, p, v) -> y.frameOf(p, v));
    }

    private static void slots() {
        Document.promise(28, "Returns the swap slot of a page.", "Returns number of the slot;");
        CheckpointSwap x = Check.system("system 1 48 lru;" + Scenes.SIX);
        for (int k = 0; k < 48; k++) {
            x.writePage(k / 8, k % 8, 1);
            x.evictPage(k / 8, k % 8);
            Check.due("slot of " + k, x.slotOf(k / 8, k % 8), k);
        }
        x.readPage(5, 7);
        Check.due("resident", x.slotOf(5, 7), 47);
        Document.promise(28, "NONE if it has none.");
        x.writePage(5, 7, 1);
        Check.due("written", x.slotOf(5, 7), -1);
        x.crash();
        Check.due("crashed", x.slotOf(0, 0), -1);
        x.readPage(0, 0);
        Check.due("empty", x.slotOf(0, 0), -1);
        Document.promise(28, "Throws `IndexOutOfBoundsException` if there is no such process or page");
        Refusal.noPage((y, p, v) -> y.slotOf(p, v));
    }

    private static void owners() {
        Document.promise(29, "Returns the page in a frame.", "Returns 8 * process + page;");
        CheckpointSwap x = Check.system("system 16 2 lru;process int 1;process int 1;process int 1;process int 1;"
                + "process int 1;process int 8;");
        x.readPage(0, 0);
        x.readPage(5, 7);
        x.readPage(1, 0);
        Check.due("the least", x.frameOwner(0), 0);
        Check.due("the greatest", x.frameOwner(1), 47);
        Check.due("the first of process 1", x.frameOwner(2), 8);
        Document.promise(29, "NONE if the frame is free.");
        Check.due("never used", x.frameOwner(15), -1);
        x.evictPage(0, 0);
        Check.due("evicted", x.frameOwner(0), -1);
        x.crash();
        Check.due("crashed", x.frameOwner(1), -1);
        Document.promise(29, "Throws `IndexOutOfBoundsException` if there is no such frame");
        Refusal.noFrame((y, f) -> y.frameOwner(f));
        Check.outside("16 of 16", () -> x.frameOwner(16));
    }

    private static void times() {
        Document.promise(30, "Returns a time of a frame.", "- `what`: 0: the use time;", "Returns the time.");
        CheckpointSwap x = Check.system("system 16 2 lru;process int 8;process int 8;");
        for (int k = 0; k < 16; k++) {
            x.readPage(k / 8, k % 8);
        }
        x.readPage(1, 7);
        x.writePage(0, 0, 1);
        Check.due("frame 0", x.frameTime(0, 0), 18);
        Check.due("frame 15", x.frameTime(15, 0), 17);
        Document.promise(30, "1: the load time");
        Check.due("frame 0", x.frameTime(0, 1), 1);
        Check.due("frame 15", x.frameTime(15, 1), 16);
        Document.promise(30, "Throws `IndexOutOfBoundsException` if there is no such frame");
        Refusal.noFrame((y, f) -> y.frameTime(f, 0));
        Refusal.noFrame((y, f) -> y.frameTime(f, -1));
        Document.promise(30, "NoSuchElementException if the frame is free");
        for (int what = -1; what < 3; what++) {
            int w = what;
            Refusal.missing("never used", () -> Check.after("system 2 2 lru;process int 1;", "read 0 0;"),
                    y -> y.frameTime(1, w));
            Refusal.missing("evicted", () -> Check.after("system 2 2 lru;process int 1;", "read 0 0;evict 0 0;"),
                    y -> y.frameTime(0, w));
            Refusal.missing("no processes", Scenes::unparsed, y -> y.frameTime(0, w));
        }
        Document.promise(30, "IllegalArgumentException if what is not 0 or 1");
        Refusal.notBetween(0, 1, Scenes::quiet, (y, what) -> y.frameTime(0, what));
    }

    private static void victims() {
        Document.promise(31, "Returns the frame whose page would be evicted by a fault now.",
                "Returns number of the frame;");
        CheckpointSwap one = Check.after("system 1 2 lru;process int 2;", "read 0 0;");
        Check.due("the only frame", one.victim(), 0);
        CheckpointSwap x = Check.system("system 16 48 lru;process int 8;process int 8;process int 1;");
        for (int k = 0; k < 16; k++) {
            x.writePage(k / 8, k % 8, 1);
        }
        for (int k = 0; k < 15; k++) {
            Check.due("least use time", x.victim(), k);
            x.readPage(k / 8, k % 8);
        }
        Check.due("the last frame", x.victim(), 15);
        x.setPolicy(1);
        Check.due("least load time", x.victim(), 0);
        x.setPolicy(2);
        Check.due("none is clean", x.victim(), 15);
        x.startBarrier(1);
        x.writeBarrier(1);
        Check.due("one is clean", x.victim(), 0);
        Document.promise(31, "NONE if a frame is free.");
        x.evictPage(1, 7);
        Check.due("the last frame is free", x.victim(), -1);
        Check.due("no processes", new CheckpointSwap().victim(), -1);
        Check.due("all frames are free", Check.system("system 16 1 clean;process int 1;").victim(), -1);
        one.evictPage(0, 0);
        Check.due("the only frame is free", one.victim(), -1);
    }

    private static void sets() {
        CheckpointSwap x = Check.system("system 16 48 lru;process int 8;process int 8;");
        Document.promise(32, "Returns the pages of a process that are resident.", "Returns a set of pages.");
        Check.due("empty", x.residentPages(0), 0);
        for (int page = 7; page >= 0; page--) {
            x.readPage(1, page);
            Check.due("pages down to " + page, x.residentPages(1), 256 - (1 << page));
            Check.due("of another process", x.residentPages(0), 0);
        }
        Check.due("full", x.residentPages(1), 255);
        Document.promise(32, "Throws `IndexOutOfBoundsException` if there is no such process");
        Refusal.noProcess((y, p) -> y.residentPages(p));
        Document.promise(33, "Returns the pages of a process that are dirty.", "Returns a set of pages.");
        Check.due("empty", x.dirtyPages(1), 0);
        for (int page = 7; page >= 0; page--) {
            x.writePage(1, page, 0);
            Check.due("pages down to " + page, x.dirtyPages(1), 256 - (1 << page));
            Check.due("of another process", x.dirtyPages(0), 0);
        }
        x.startBarrier(2);
        for (int page = 0; page < 8; page++) {
            x.writeBarrier(1);
            Check.due("written up to " + page, x.dirtyPages(1), 256 - (2 << page));
        }
        Document.promise(33, "Throws `IndexOutOfBoundsException` if there is no such process");
        Refusal.noProcess((y, p) -> y.dirtyPages(p));
    }
}
