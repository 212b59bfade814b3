/** Promises 11 to 20: the changes. */
final class ChangeEdges {
    private ChangeEdges() {
    }

    static void run() {
        reading();
        writing();
        writingWithoutSlot();
        policies();
        starting();
        flushing();
        committing();
        abandoning();
        crashing();
        rollingBack();
        evicting();
    }

    private static void reading() {
        Document.promise(11, "Reads a page.", "Returns its value.");
        CheckpointSwap x = Check.system("system 1 1 lru;process int 8;process float 1;process int 1;process int 1;"
                + "process int 1;process int 8;");
        Check.due("the first page", x.readPage(0, 0), 0);
        Check.due("the last page", x.readPage(5, 7), 0);
        x.writePage(5, 7, Integer.MIN_VALUE);
        Check.due("in a frame", x.readPage(5, 7), Integer.MIN_VALUE);
        x.readPage(0, 7);
        Check.due("in a slot", x.readPage(5, 7), Integer.MIN_VALUE);
        Check.due("six accesses", x.total(0), 6);
        Check.due("four faults", x.total(1), 4);
        Document.promise(11, "Throws `IndexOutOfBoundsException` if there is no such process or page");
        Refusal.noPage((y, p, v) -> y.readPage(p, v));
        Document.promise(11, "IllegalStateException if a slot would be needed and none is free");
        Refusal.state("a fault with dirty pages", Scenes::full, y -> y.readPage(0, 4));
        Refusal.state("a fault of a page with a slot", Scenes::full, y -> y.readPage(0, 0));
        Refusal.state("a fault in a barrier", Scenes::fullInBarrier, y -> y.readPage(1, 0));
        Check.due("a hit needs none", Scenes.full().readPage(0, 3), 13);
        Check.due("a hit in a barrier needs none", Scenes.fullInBarrier().readPage(0, 2), 12);
        CheckpointSwap clean = Check.after("system 2 1 clean;process int 4;",
                "write 0 0 1;evict 0 0;write 0 1 2;read 0 2;");
        Check.due("a clean victim needs none", clean.readPage(0, 3), 0);
        CheckpointSwap last = Check.after("system 1 1 lru;process int 2;", "write 0 0 1;");
        Check.due("the last slot", last.readPage(0, 1), 0);
        Check.due("no slot is left", last.freeSlots(), 0);
        CheckpointSwap free = Check.after("system 2 1 lru;process int 4;", "write 0 0 1;evict 0 0;write 0 1 2;");
        Check.due("a free frame needs none", free.readPage(0, 2), 0);
    }

    private static void writing() {
        Document.promise(12, "Writes a page.", "Returns its previous value.");
        CheckpointSwap x = Check.system("system 1 2 lru;process int 8;process float 8;");
        Check.due("the first value", x.writePage(0, 0, Integer.MAX_VALUE), 0);
        Check.due("the next", x.writePage(0, 0, Integer.MIN_VALUE), Integer.MAX_VALUE);
        x.evictPage(0, 0);
        Check.due("from a slot", x.writePage(0, 0, -1), Integer.MIN_VALUE);
        Check.due("the last page", x.writePage(1, 7, -1), 0);
        Check.due("NaN is 0x7fc00000", x.writePage(1, 7, 0), 0x7fc00000);
        Document.promise(12, "Throws `IndexOutOfBoundsException` if there is no such process or page");
        Refusal.noPage((y, p, v) -> y.writePage(p, v, 1));
    }

    private static void writingWithoutSlot() {
        Document.promise(12, "IllegalStateException if a slot would be needed and none is free (for the victim, or "
                + "for the barrier in progress)");
        Refusal.state("for the victim", Scenes::full, y -> y.writePage(0, 4, 1));
        Refusal.state("for the victim, of a page with a slot", Scenes::full, y -> y.writePage(0, 0, 1));
        Refusal.state("for the victim, in a barrier", Scenes::fullInBarrier, y -> y.writePage(1, 0, 1));
        Refusal.state("for the barrier", Scenes::fullInBarrier, y -> y.writePage(0, 2, 12));
        Check.due("a hit needs none", Scenes.full().writePage(0, 2, 1), 12);
        CheckpointSwap x = Check.after("system 3 1 lru;process int 3;process int 1;",
                "write 0 0 1;write 0 1 2;write 1 0 3;barrier 1;");
        Check.due("the last slot for the barrier", x.writePage(0, 0, 4), 1);
        Check.due("no slot is left", x.freeSlots(), 0);
        Check.due("written already", x.writePage(0, 0, 5), 4);
        Check.due("another process", x.writePage(1, 0, 5), 3);
        Check.state("the other page of the barrier", () -> x.writePage(0, 1, 5));
        x.abandonBarrier();
        Check.due("no barrier", x.writePage(0, 1, 5), 2);
        CheckpointSwap last = Check.after("system 1 1 lru;process int 2;", "write 0 0 1;");
        Check.due("the last slot for the victim", last.writePage(0, 1, 2), 0);
        Check.due("no slot is left", last.freeSlots(), 0);
    }

    private static void policies() {
        Document.promise(13, "Sets the policy.", "- `policy`: 0 to 2", "Returns the previous policy.");
        CheckpointSwap x = Check.system("system 1 1 fifo;process int 1;");
        int previous = 1;
        for (int policy : new int[] {0, 0, 1, 1, 2, 2, 0}) {
            Check.due("previous", x.setPolicy(policy), previous);
            Check.due("now", x.total(7), policy);
            previous = policy;
        }
        Document.promise(13, "Throws `IllegalArgumentException` if an argument is out of its range");
        Refusal.notBetween(0, 2, Scenes::busy, (y, k) -> y.setPolicy(k));
        Refusal.notBetween(0, 2, Scenes::unparsed, (y, k) -> y.setPolicy(k));
    }

    private static void starting() {
        Document.promise(14, "Starts a barrier for a set of processes.", "- `set`: a set of processes, not empty",
                "Returns the number of pages still to be written.");
        for (int set = 1; set < 8; set++) {
            CheckpointSwap x = Scenes.quiet();
            int pages = (set & 1) * 2 + (set >> 2);
            Check.due("pages of " + set, x.startBarrier(set), pages);
            Check.due("set", x.barrierSet(), set);
            Check.due("pages of " + set, x.pendingPages(), pages);
        }
        CheckpointSwap most = Check.system("system 16 48 lru;" + Scenes.SIX);
        Check.due("all sets at most, no page", most.startBarrier(63), 0);
        most.abandonBarrier();
        for (int k = 0; k < 16; k++) {
            most.writePage(k / 3, k % 3, k);
        }
        Check.due("as many pages as can be dirty", most.startBarrier(63), 16);
        Document.promise(14, "Throws `IllegalArgumentException` if the set is empty or contains something that is no "
                + "process");
        Refusal.noSet(Scenes::quiet, (y, set) -> y.startBarrier(set));
        Refusal.noSet(Scenes::busy, (y, set) -> y.startBarrier(set));
        Refusal.argument("the first process of none", Scenes::unparsed, y -> y.startBarrier(1));
        Refusal.argument("the seventh process", () -> Check.system("system 1 1 lru;" + Scenes.SIX),
                y -> y.startBarrier(64));
        Document.promise(14, "IllegalStateException if a barrier is in progress");
        Refusal.state("the same set", Scenes::busy, y -> y.startBarrier(5));
        Refusal.state("another set", Scenes::busy, y -> y.startBarrier(2));
        Refusal.state("all pages are written", Scenes::written, y -> y.startBarrier(7));
    }

    private static void flushing() {
        Document.promise(15, "Writes pages of the barrier in progress that are still to be written, one after the "
                + "other, at most count;", "Returns the number of pages still to be written afterwards.",
                "- `count`: 1 to 48");
        String text = "system 4 9 lru;process int 4;";
        String script = "write 0 3 1;write 0 1 2;write 0 2 3;write 0 0 4;barrier 1;";
        int[] left = {3, 2, 1, 0, 0, 0};
        for (int count = 1; count <= 6; count++) {
            CheckpointSwap x = Check.after(text, script);
            Check.due("at most " + count, x.writeBarrier(count), left[count - 1]);
            Check.due("values in slots", x.total(2), 4 - left[count - 1]);
            Check.due("still dirty", Integer.bitCount(x.dirtyPages(0)), left[count - 1]);
        }
        CheckpointSwap all = Check.after(text, script);
        Check.due("48", all.writeBarrier(48), 0);
        Check.due("no page is left", all.writeBarrier(1), 0);
        Check.due("no page is left", all.writeBarrier(48), 0);
        Check.due("values in slots", all.total(2), 4);
        Document.promise(15, "it ends early where a slot would be needed and none is free.");
        for (int slots = 1; slots <= 4; slots++) {
            CheckpointSwap x = Check.after("system 4 " + slots + " lru;process int 4;", script);
            Check.due("with " + slots, x.writeBarrier(48), 4 - slots);
            Check.due("all are taken", x.freeSlots(), 0);
            Check.due("again", x.writeBarrier(4), 4 - slots);
            Check.due("values in slots", x.total(2), slots);
        }
        Check.due("none at once", Scenes.fullInBarrier().writeBarrier(1), 2);
        Document.promise(15, "Throws `IllegalArgumentException` if an argument is out of its range");
        Refusal.notBetween(1, 48, Scenes::busy, (y, k) -> y.writeBarrier(k));
        Refusal.notBetween(1, 48, Scenes::quiet, (y, k) -> y.writeBarrier(k));
        Document.promise(15, "IllegalStateException if no barrier is in progress");
        Refusal.state("none", Scenes::quiet, y -> y.writeBarrier(1));
        Refusal.state("none", Scenes::unparsed, y -> y.writeBarrier(48));
        Refusal.state("committed", ChangeEdges::committed, y -> y.writeBarrier(1));
        Refusal.state("abandoned", ChangeEdges::abandoned, y -> y.writeBarrier(1));
    }

    private static CheckpointSwap committed() {
        CheckpointSwap x = Scenes.written();
        x.commitBarrier();
        return x;
    }

    private static CheckpointSwap abandoned() {
        CheckpointSwap x = Scenes.busy();
        x.abandonBarrier();
        return x;
    }

    private static CheckpointSwap crashed() {
        CheckpointSwap x = Scenes.busy();
        x.crash();
        return x;
    }

    private static void committing() {
        Document.promise(16, "Commits the barrier in progress.", "Returns how many slots became free.");
        CheckpointSwap x = Check.system("system 8 48 lru;process int 8;");
        Check.due("a barrier without slots", x.startBarrier(1) + x.commitBarrier(), 0);
        for (int page = 0; page < 8; page++) {
            x.writePage(0, page, page);
        }
        x.startBarrier(1);
        x.writeBarrier(48);
        Check.due("no former slots", x.commitBarrier(), 0);
        Check.due("free", x.freeSlots(), 40);
        for (int changed = 0; changed <= 8; changed++) {
            for (int page = 0; page < changed; page++) {
                x.writePage(0, page, 10 + page);
            }
            x.startBarrier(1);
            x.writeBarrier(48);
            Check.due("former slots of " + changed + " pages", x.commitBarrier(), changed);
            Check.due("free", x.freeSlots(), 40);
        }
        x.crash();
        Check.due("the swap slots are those of the checkpoint", x.startBarrier(1) + x.commitBarrier(), 0);
        Document.promise(16, "Throws `IllegalStateException` if no barrier is in progress");
        Refusal.state("none", Scenes::quiet, y -> y.commitBarrier());
        Refusal.state("none", CheckpointSwap::new, y -> y.commitBarrier());
        Refusal.state("committed", ChangeEdges::committed, y -> y.commitBarrier());
        Refusal.state("abandoned", ChangeEdges::abandoned, y -> y.commitBarrier());
        Refusal.state("crashed", ChangeEdges::crashed, y -> y.commitBarrier());
        Document.promise(16, "UnsupportedOperationException if a page is still to be written");
        Refusal.unsupported("two", Scenes::busy, y -> y.commitBarrier());
        Refusal.unsupported("one", ChangeEdges::onePageLeft, y -> y.commitBarrier());
        Refusal.unsupported("no slot is free", Scenes::fullInBarrier, y -> y.commitBarrier());
        Check.due("none", Scenes.written().commitBarrier(), 1);
    }

    private static CheckpointSwap onePageLeft() {
        CheckpointSwap x = Scenes.busy();
        x.writeBarrier(1);
        return x;
    }

    private static void abandoning() {
        Document.promise(17, "Abandons the barrier in progress.", "Returns how many slots became free.");
        for (int written = 0; written <= 4; written++) {
            CheckpointSwap x = Check.after("system 4 9 lru;process int 4;",
                    "write 0 0 1;write 0 1 2;write 0 2 3;write 0 3 4;barrier 1;");
            for (int page = 0; page < written; page++) {
                x.writePage(0, page, 9);
            }
            Check.due("slots of the barrier alone", x.abandonBarrier(), written);
            Check.due("free", x.freeSlots(), 9);
            Check.due("no barrier", x.barrierSet() + x.pendingPages(), 0);
        }
        Check.due("slots that are swap slots", Scenes.written().abandonBarrier(), 0);
        Document.promise(17, "Throws `IllegalStateException` if no barrier is in progress");
        Refusal.state("none", Scenes::quiet, y -> y.abandonBarrier());
        Refusal.state("none", CheckpointSwap::new, y -> y.abandonBarrier());
        Refusal.state("committed", ChangeEdges::committed, y -> y.abandonBarrier());
        Refusal.state("abandoned", ChangeEdges::abandoned, y -> y.abandonBarrier());
        Refusal.state("crashed", ChangeEdges::crashed, y -> y.abandonBarrier());
    }

    private static void crashing() {
        Document.promise(18, "Crashes the system (see section 4).",
                "Returns the set of the processes that have a checkpoint.");
        Check.due("no process", new CheckpointSwap().crash(), 0);
        Check.due("no checkpoint", Scenes.full().crash(), 0);
        Check.due("not committed", Scenes.fullInBarrier().crash(), 0);
        Check.due("0 and 1", Scenes.busy().crash(), 3);
        CheckpointSwap x = Check.system("system 1 1 lru;" + Scenes.SIX);
        int set = 0;
        for (int process = 5; process >= 0; process--) {
            Check.due("before " + process, x.crash(), set);
            x.startBarrier(1 << process);
            x.commitBarrier();
            set |= 1 << process;
        }
        Check.due("all", x.crash(), 63);
        Check.due("again", x.crash(), 63);
        Check.due("crashes", x.total(4), 8);
    }

    private static void rollingBack() {
        Document.promise(19, "Restores a process.", "Returns the set of its pages whose values became different.");
        CheckpointSwap x = Check.after("system 8 48 lru;process int 8;",
                "write 0 0 5;write 0 1 6;barrier 1;flush 48;commit;");
        Check.due("none", x.rollback(0), 0);
        for (int page = 0; page < 8; page++) {
            x.writePage(0, page, page == 1 ? 6 : 0);
        }
        Check.due("0 alone; 1 has the same, 2 to 7 have 0 again", x.rollback(0), 1);
        for (int page = 0; page < 8; page++) {
            x.writePage(0, page, Integer.MIN_VALUE);
        }
        Check.due("all eight", x.rollback(0), 255);
        Check.due("restored", x.peek(0, 0) * 10 + x.peek(0, 1), 56);
        Document.promise(19, "Throws `IndexOutOfBoundsException` if there is no such process");
        Refusal.noProcess((y, p) -> y.rollback(p));
        Document.promise(19, "NoSuchElementException if the process has no checkpoint");
        Refusal.missing("no checkpoint", Scenes::quiet, y -> y.rollback(2));
        Refusal.missing("no checkpoint, in the barrier", Scenes::busy, y -> y.rollback(2));
        Refusal.missing("not committed", Scenes::fullInBarrier, y -> y.rollback(0));
        Document.promise(19, "IllegalStateException if the process belongs to the barrier in progress");
        Refusal.state("in the barrier", Scenes::busy, y -> y.rollback(0));
        Refusal.state("in the barrier, all written", Scenes::written, y -> y.rollback(0));
        CheckpointSwap other = Scenes.busy();
        Check.due("not in the barrier", other.rollback(1), 0);
        Check.due("which goes on", other.pendingPages(), 2);
        Check.due("abandoned", abandoned().rollback(0), 5);
        Check.due("committed", committed().rollback(0), 0);
    }

    private static void evicting() {
        Document.promise(20, "Evicts a page.", "Returns its swap slot afterwards;");
        CheckpointSwap x = Check.system("system 16 48 lru;" + Scenes.SIX);
        for (int k = 0; k < 48; k++) {
            x.writePage(k / 8, k % 8, k);
            Check.due("slot " + k, x.evictPage(k / 8, k % 8), k);
            Check.due("not resident", x.frameOf(k / 8, k % 8), -1);
        }
        x.readPage(5, 7);
        Check.due("a clean page keeps its slot", x.evictPage(5, 7), 47);
        Document.promise(20, "NONE if it has none.");
        CheckpointSwap empty = Check.after("system 1 1 lru;process int 1;", "read 0 0;");
        Check.due("a page that was only read", empty.evictPage(0, 0), -1);
        Document.promise(20, "Throws `IndexOutOfBoundsException` if there is no such process or page");
        Refusal.noPage((y, p, v) -> y.evictPage(p, v));
        Document.promise(20, "UnsupportedOperationException if the page is not resident");
        Refusal.unsupported("in a slot", Scenes::quiet, y -> y.evictPage(0, 1));
        Refusal.unsupported("never accessed", Scenes::quiet, y -> y.evictPage(1, 0));
        Refusal.unsupported("crashed", ChangeEdges::crashed, y -> y.evictPage(0, 0));
        Refusal.unsupported("no slot is free", Scenes::full, y -> y.evictPage(0, 4));
        Document.promise(20, "IllegalStateException if a slot would be needed and none is free");
        Refusal.state("dirty", Scenes::full, y -> y.evictPage(0, 2));
        Refusal.state("dirty in a barrier", Scenes::fullInBarrier, y -> y.evictPage(0, 3));
        CheckpointSwap clean = Check.after("system 2 1 lru;process int 2;", "write 0 0 1;evict 0 0;read 0 0;read 0 1;");
        Check.due("a clean page needs none", clean.evictPage(0, 0), 0);
        Check.due("an empty page needs none", clean.evictPage(0, 1), -1);
        CheckpointSwap last = Check.after("system 2 1 lru;process int 2;", "write 0 0 1;write 0 1 1;");
        Check.due("the last slot", last.evictPage(0, 1), 0);
        Check.state("no slot is left", () -> last.evictPage(0, 0));
    }
}
