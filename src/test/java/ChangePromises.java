/** Promises 11 to 21: the changes. */
public final class ChangePromises {
    private static final int NAN = 2143289344;

    public static void main(String[] args) {
        reading();
        writing();
        floats();
        policies();
        victims();
        starting();
        flushing();
        committing();
        abandoning();
        crashing();
        rollingBack();
        evicting();
        scripts();
        wrongScripts();
        Check.end(11, 21);
    }

    private static void reading() {
        Check.promise(11);
        CheckpointSwap x = Check.system("system 2 1 lru;process int 3;process int 2;");
        Check.due("a new page", x.readPage(0, 2), 0);
        Check.due("in the lowest frame", x.frameOf(0, 2), 0);
        Check.due("clean", x.pageState(0, 2), 2);
        Check.due("a written page", x.writePage(1, 1, -8), 0);
        Check.due("read again", x.readPage(1, 1), -8);
        Check.due("it is a hit", x.total(1), 2);
        Check.due("times", x.frameTime(1, 0), 3);
        Check.due("load time stays", x.frameTime(1, 1), 2);
        Check.due("evicts the older one", x.readPage(0, 0), 0);
        Check.due("into its frame", x.frameOf(0, 0), 0);
        Check.due("evicts the dirty one", x.readPage(0, 1), 0);
        Check.due("into a slot", x.slotOf(1, 1), 0);
        Check.due("back from the slot", x.readPage(1, 1), -8);
        Check.due("it keeps the slot", x.slotOf(1, 1), 0);
        Check.due("clean then", x.pageState(1, 1), 2);
        Check.outside("no process", () -> x.readPage(2, 0));
        Check.outside("no process", () -> x.readPage(-1, 0));
        Check.outside("no page", () -> x.readPage(1, 2));
        Check.outside("no page", () -> x.readPage(0, -1));
        Check.outside("no page", () -> x.readPage(0, 8));
        Check.outside("far", () -> x.readPage(Integer.MAX_VALUE, Integer.MIN_VALUE));

        CheckpointSwap y = Check.system("system 1 1 lru;process int 3;");
        y.writePage(0, 0, 1);
        y.writePage(0, 1, 2);
        Check.state("no slot for the victim", () -> y.readPage(0, 2));
        Check.outside("the index counts first", () -> y.readPage(0, 3));
        Check.due("nothing changes", y.total(0), 2);
        Check.due("nothing changes", y.undoDepth(), 2);
        Check.due("nothing changes", y.pageState(0, 1), 3);
        Check.due("a hit needs none", y.readPage(0, 1), 2);
    }

    private static void writing() {
        Check.promise(12);
        CheckpointSwap x = Check.system("system 1 2 lru;process int 3;");
        Check.due("previous of a new page", x.writePage(0, 0, 11), 0);
        Check.due("previous", x.writePage(0, 0, 12), 11);
        Check.due("dirty", x.pageState(0, 0), 3);
        x.evictPage(0, 0);
        Check.due("previous from the slot", x.writePage(0, 0, 12), 12);
        Check.due("it loses its slot, also with the same value", x.slotOf(0, 0), -1);
        Check.due("dirty again", x.dirtyPages(0), 1);
        Check.due("the slot is free", x.slotUse(0), 0);
        Check.due("two hits of four", x.total(1), 2);
        Check.outside("no page", () -> x.writePage(0, 3, 1));
        Check.outside("no process", () -> x.writePage(1, 0, 1));
        Check.outside("negative", () -> x.writePage(-1, -1, 1));
        x.writePage(0, 1, 5);
        x.writePage(0, 2, 6);
        Check.state("no slot for the victim", () -> x.writePage(0, 0, 7));
        Check.due("nothing changes", x.peek(0, 0), 12);
        Check.due("a hit needs none", x.writePage(0, 2, 8), 6);
        writingInBarrier();
    }

    private static void writingInBarrier() {
        CheckpointSwap x = Check.system("system 2 2 lru;process int 3;");
        x.writePage(0, 0, 1);
        x.writePage(0, 1, 2);
        x.startBarrier(1);
        Check.due("a page still to be written", x.writePage(0, 1, 3), 2);
        Check.due("was written first", x.slotValue(0), 2);
        Check.due("for the barrier alone", x.slotUse(0), 4);
        Check.due("one is left", x.pendingPages(), 1);
        Check.due("dirty", x.pageState(0, 1), 3);
        Check.due("the second time it needs no slot", x.writePage(0, 1, 4), 3);
        Check.due("one value in slots", x.total(2), 1);
        x.evictPage(0, 1);
        Check.due("all slots are used", x.nextSlot(), -1);
        Check.state("no slot for the barrier", () -> x.writePage(0, 0, 9));
        Check.due("nothing changes", x.peek(0, 0), 1);
        Check.due("nothing changes", x.pendingPages(), 1);
        Check.due("nothing changes", x.total(0), 4);
        Check.due("reading needs none", x.readPage(0, 0), 1);
    }

    private static void floats() {
        Check.promise(12);
        CheckpointSwap x = Check.system("system 2 2 lru;process float 1;process int 1;");
        int[] values = {0x7f800001, NAN, 0x7fc00000, 0x7fffffff, 0xffc00000, 0xff800001, 0xffffffff,
            0x7f800000, 0xff800000, 0x80000000, 0x7f7fffff, 1, 0x3f800000};
        for (int value : values) {
            boolean nan = Float.isNaN(Float.intBitsToFloat(value));
            x.writePage(0, 0, value);
            Check.due("float " + value, x.peek(0, 0), nan ? NAN : value);
            x.writePage(1, 0, value);
            Check.due("int " + value, x.peek(1, 0), value);
        }
    }

    private static void policies() {
        Check.promise(13);
        CheckpointSwap x = Check.system("system 1 1 fifo;process int 1;");
        Check.due("previous", x.setPolicy(2), 1);
        Check.due("previous", x.setPolicy(0), 2);
        Check.due("previous", x.setPolicy(0), 0);
        Check.due("a change each", x.undoDepth(), 3);
        Check.argument("setPolicy(3)", () -> x.setPolicy(3));
        Check.argument("setPolicy(-1)", () -> x.setPolicy(-1));
        Check.due("policy", x.total(7), 0);
        x.undo();
        x.undo();
        Check.due("policy", x.total(7), 2);
    }

    private static void victims() {
        for (int policy = 0; policy < 3; policy++) {
            Check.promise(13);
            CheckpointSwap x = Check.system("system 3 9 lru;process int 5;");
            x.setPolicy(policy);
            x.writePage(0, 0, 1);
            x.readPage(0, 1);
            x.writePage(0, 2, 3);
            x.readPage(0, 0);
            x.readPage(0, 2);
            x.readPage(0, 1);
            Check.due("victim of policy " + policy, x.victim(), policy == 2 ? 1 : 0);
            x.readPage(0, 0);
            Check.due("victim of policy " + policy, x.victim(), policy == 0 ? 2 : policy == 1 ? 0 : 1);
            x.writePage(0, 1, 2);
            x.readPage(0, 2);
            Check.due("victim of policy " + policy, x.victim(), 0);
            x.setPolicy(1);
            Check.due("victim of policy 1", x.victim(), 0);
        }
    }

    private static void starting() {
        Check.promise(14);
        CheckpointSwap x = Check.system("system 3 9 lru;process int 3;process int 2;process float 1;");
        Check.argument("empty", () -> x.startBarrier(0));
        Check.argument("process 3", () -> x.startBarrier(8));
        Check.argument("process 3 too", () -> x.startBarrier(9));
        Check.argument("negative", () -> x.startBarrier(-1));
        x.writePage(0, 0, 1);
        x.writePage(0, 2, 1);
        x.writePage(1, 1, 1);
        Check.due("pages of two processes", x.startBarrier(3), 3);
        Check.state("one in progress", () -> x.startBarrier(4));
        Check.argument("the argument counts first", () -> x.startBarrier(8));
        x.undo();
        Check.due("pages of one process", x.startBarrier(2), 1);
        x.undo();
        Check.due("no pages", x.startBarrier(4), 0);
        Check.due("epoch", x.epoch(), 1);
        x.undo();
        x.evictPage(0, 2);
        Check.due("a swap slot is a record", x.startBarrier(1), 1);
        Check.due("it is shared", x.slotUse(0), 5);
    }

    private static void flushing() {
        Check.promise(15);
        CheckpointSwap x = Check.system("system 4 3 lru;process int 3;process int 2;");
        Check.state("none in progress", () -> x.writeBarrier(1));
        Check.argument("the argument counts first", () -> x.writeBarrier(49));
        x.writePage(1, 1, 4);
        x.writePage(1, 0, 3);
        x.writePage(0, 2, 2);
        x.writePage(0, 0, 1);
        x.startBarrier(3);
        Check.argument("0", () -> x.writeBarrier(0));
        Check.argument("-1", () -> x.writeBarrier(-1));
        Check.argument("49", () -> x.writeBarrier(49));
        Check.due("two of four", x.writeBarrier(2), 2);
        Check.due("the first", x.slotOwner(0), 0);
        Check.due("the second", x.slotOwner(1), 2);
        Check.due("stamp", x.slotStamp(1), 1);
        Check.due("clean and resident", x.pageState(0, 2), 2);
        Check.due("with its slot", x.slotOf(0, 2), 1);
        Check.due("it ends where no slot is free", x.writeBarrier(48), 1);
        Check.due("the third", x.slotOwner(2), 8);
        Check.due("nothing can be written", x.writeBarrier(1), 1);
        Check.due("still a change", x.undoDepth(), 8);
        Check.due("values in slots", x.total(2), 3);
    }

    private static void committing() {
        Check.promise(16);
        CheckpointSwap x = Check.system("system 2 4 lru;process int 2;process int 1;");
        Check.state("none in progress", () -> x.commitBarrier());
        x.writePage(0, 0, 1);
        x.writePage(0, 1, 2);
        x.startBarrier(1);
        Check.unsupported("pages still to be written", () -> x.commitBarrier());
        x.writeBarrier(9);
        Check.due("nothing to free", x.commitBarrier(), 0);
        Check.due("over", x.barrierSet(), 0);
        Check.due("epoch", x.checkpointEpoch(0), 1);
        Check.due("slot", x.checkpointSlot(0, 1), 1);
        Check.due("others stay", x.checkpointEpoch(1), -1);
        x.writePage(0, 0, 3);
        x.startBarrier(1);
        x.writeBarrier(9);
        Check.due("the former slot of page 0", x.commitBarrier(), 1);
        Check.due("it is free", x.slotUse(0), 0);
        Check.due("page 1 keeps its slot", x.slotUse(1), 3);
        x.startBarrier(3);
        Check.due("the same slots again", x.commitBarrier(), 0);
        Check.due("epoch of 0", x.checkpointEpoch(0), 3);
        Check.due("epoch of 1", x.checkpointEpoch(1), 3);
        Check.due("an empty record", x.checkpointSlot(1, 0), -1);
        x.writePage(0, 0, 4);
        x.writePage(0, 1, 5);
        x.startBarrier(1);
        x.writeBarrier(9);
        x.writePage(0, 0, 6);
        Check.due("a swap slot is lost meanwhile", x.commitBarrier(), 2);
        Check.due("the checkpoint has the value at the start", x.checkpointValue(0, 0), 4);
    }

    private static void abandoning() {
        Check.promise(17);
        CheckpointSwap x = Check.system("system 2 4 lru;process int 2;");
        Check.state("none in progress", () -> x.abandonBarrier());
        x.writePage(0, 0, 1);
        x.writePage(0, 1, 2);
        x.startBarrier(1);
        Check.due("pages still to be written", x.abandonBarrier(), 0);
        Check.due("none is left", x.pendingPages(), 0);
        x.startBarrier(1);
        x.writeBarrier(1);
        Check.due("the page keeps its slot", x.abandonBarrier(), 0);
        Check.due("for swapping alone", x.slotUse(0), 1);
        x.startBarrier(1);
        x.writePage(0, 0, 3);
        Check.due("the slot is free", x.abandonBarrier(), 1);
        Check.due("no checkpoint", x.checkpointEpoch(0), -1);
        Check.due("not committed", x.total(3), 0);
        Check.due("the stamp stays", x.slotStamp(0), 2);
    }

    private static void crashing() {
        Check.promise(18);
        CheckpointSwap x = Check.system("system 3 6 lru;process int 2;process int 1;process float 2;");
        Check.due("no checkpoint", x.crash(), 0);
        x.writePage(0, 0, 1);
        x.writePage(2, 1, 1065353216);
        Check.script(x, "barrier 5;flush 2;commit;write 0 0 7;write 1 0 8;write 2 0 9;evict 1 0;barrier 7;flush 1;");
        Check.due("checkpoints of 0 and 2", x.crash(), 5);
        Check.due("page 0 of 0", x.peek(0, 0), 1);
        Check.due("page 0 of 1", x.peek(1, 0), 0);
        Check.due("page 0 of 2", x.peek(2, 0), 0);
        Check.due("page 1 of 2", x.peek(2, 1), 1065353216);
        Check.due("in a slot", x.pageState(2, 1), 1);
        Check.due("in nothing", x.pageState(2, 0), 0);
        Check.due("the barrier is abandoned", x.barrierSet(), 0);
        Check.due("nothing is pending", x.pendingPages(), 0);
        Check.due("slots are free", x.freeSlots(), 4);
        Check.due("frames are free", x.frameOwner(0), -1);
        Check.due("nothing is dirty", x.total(6), 0);
        Check.due("the epoch stays", x.epoch(), 2);
        Check.due("the accesses stay", x.total(0), 5);
        Check.outside("no recent access", () -> x.recentAccess(0));
        Check.due("the value of a slot stays", x.slotValue(2), 8);
        Check.due("the owner of a slot stays", x.slotOwner(2), 8);
        Check.due("the stamp of a slot stays", x.slotStamp(2), 1);
        Check.due("two crashes", x.total(4), 2);
        Check.due("page by page", x.readPage(0, 0), 1);
        Check.due("the time goes on", x.frameTime(0, 0), 6);
    }

    private static void rollingBack() {
        Check.promise(19);
        CheckpointSwap x = Check.system("system 5 6 lru;process int 4;process int 1;");
        Check.missing("no checkpoint", () -> x.rollback(0));
        Check.outside("no process", () -> x.rollback(2));
        Check.outside("no process", () -> x.rollback(-1));
        Check.script(x, "write 0 0 1;write 0 1 2;write 1 0 3;barrier 1;flush 2;commit;");
        Check.script(x, "write 0 0 5;write 0 1 2;write 0 3 4;read 0 2;");
        Check.due("page 1 has the same value", x.rollback(0), 9);
        Check.due("page 0", x.peek(0, 0), 1);
        Check.due("page 3", x.peek(0, 3), 0);
        Check.due("not resident", x.residentPages(0), 0);
        Check.due("not dirty", x.dirtyPages(0), 0);
        Check.due("page 1 has its slot again", x.slotOf(0, 1), x.checkpointSlot(0, 1));
        Check.due("the other one stays", x.peek(1, 0), 3);
        Check.due("the other one stays dirty", x.dirtyPages(1), 1);
        Check.due("recent accesses stay", x.recentAccess(0), 2);
        Check.due("nothing different", x.rollback(0), 0);
        x.startBarrier(3);
        Check.state("in the barrier", () -> x.rollback(0));
        Check.missing("no checkpoint counts first", () -> x.rollback(1));
        x.abandonBarrier();
        x.startBarrier(2);
        Check.due("another barrier", x.rollback(0), 0);
        Check.due("it goes on", x.pendingPages(), 1);
    }

    private static void evicting() {
        Check.promise(20);
        CheckpointSwap x = Check.system("system 3 1 lru;process int 3;");
        Check.unsupported("not resident", () -> x.evictPage(0, 0));
        Check.outside("no page", () -> x.evictPage(0, 3));
        Check.outside("no process", () -> x.evictPage(1, 0));
        Check.outside("negative", () -> x.evictPage(0, -1));
        x.readPage(0, 0);
        Check.due("an empty page", x.evictPage(0, 0), -1);
        Check.due("the frame is free", x.frameOwner(0), -1);
        x.writePage(0, 1, 4);
        x.writePage(0, 0, 4);
        x.startBarrier(1);
        Check.due("a page still to be written", x.evictPage(0, 1), 0);
        Check.due("its slot is the record", x.slotUse(0), 5);
        Check.due("one is left", x.pendingPage(0), 0);
        Check.state("no slot", () -> x.evictPage(0, 0));
        Check.due("nothing changes", x.pageState(0, 0), 3);
        Check.unsupported("not resident counts first", () -> x.evictPage(0, 2));
        Check.due("no access", x.total(0), 3);
        x.readPage(0, 1);
        Check.due("a clean page keeps its slot", x.evictPage(0, 1), 0);
        Check.due("one value in slots", x.total(2), 1);
    }

    private static void scripts() {
        Check.promise(21);
        CheckpointSwap x = Check.system("system 2 4 lru;process int 2;process float 2;");
        Check.due("no text", x.runScript(), 0);
        Check.due("blanks", Check.script(x, " \n "), 0);
        Check.due("changes too", x.undoDepth(), 2);
        Check.due("all operations", Check.script(x, "write 0 1 5;read\n0 01 ; barrier 1;flush 48;commit;write 0 1 999999999;"
                + "barrier 3;abandon;rollback 0;write 1 0 3;evict 1 0;crash;"), 12);
        Check.due("one change", x.undoDepth(), 3);
        Check.argument("the buffer is empty", () -> x.truncateText(1));
        Check.due("the buffer is empty", x.truncateText(0), 0);
        Check.due("value", x.peek(0, 1), 5);
        Check.due("epoch", x.epoch(), 2);
        Check.due("accesses", x.total(0), 4);
        Check.due("commits", x.total(3), 1);
        Check.due("crashes", x.total(4), 1);
        Check.due("owner", x.slotOwner(2) + 100 * x.slotOwner(1), -1 + 100 * 8);
        Check.due("undo", x.undo(), 2);
        Check.due("all undone", x.total(0) + x.epoch() + x.total(4), 0);
        Check.due("no blanks", Check.script(x, "write0 0 7;crash;"), 2);
        Check.due("a checkpoint of both", Check.script(x, "write 0 1 5;write 1 0 6;barrier 3;flush 9;commit;"), 5);
        Check.due("rollback", Check.script(x, "write 0 1 7;write 1 0 8;rollback 1;"), 3);
        Check.due("of this process", x.peek(1, 0), 6);
        Check.due("not of the other one", x.peek(0, 1), 7);
    }

    private static void wrongScript(CheckpointSwap x, String text, int position) {
        String before = Check.reportOf(x);
        int depth = x.undoDepth();
        int accesses = x.total(0);
        Check.due("<" + text + ">", Check.script(x, text), -1 - position);
        Check.argument("the buffer is empty", () -> x.truncateText(1));
        Check.due("the buffer is empty", x.truncateText(0), 0);
        Check.dueText("nothing changes by <" + text + ">", Check.reportOf(x), before);
        Check.due("no change", x.undoDepth(), depth);
        Check.due("no access", x.total(0), accesses);
    }

    private static void wrongScripts() {
        Check.promise(21);
        CheckpointSwap x = Check.system("system 1 1 lru;process int 3;process int 1;");
        for (int k = 0; k < 12; k++) {
            x.writePage(0, 0, k);
        }
        wrongScript(x, "read", 4);
        wrongScript(x, "read 0 0", 8);
        wrongScript(x, "read 0 0  ", 10);
        wrongScript(x, "read 0 0 0;", 9);
        wrongScript(x, "read 0;", 6);
        wrongScript(x, "read 0 x;", 7);
        wrongScript(x, "reads 0 0;", 0);
        wrongScript(x, "crashz;", 0);
        wrongScript(x, "crasha;", 0);
        wrongScript(x, "xcrash;", 0);
        wrongScript(x, "drash;", 0);
        wrongScript(x, "crash`;", 5);
        wrongScript(x, "crash{;", 5);
        wrongScript(x, "read 0 /;", 7);
        wrongScript(x, "read 0 :;", 7);
        wrongScript(x, "read 0 0;;", 9);
        wrongScript(x, "read 0 0;5", 9);
        wrongScript(x, "read 0 0;A", 9);
        wrongScript(x, "read 0 0;policy 1;", 9);
        wrongScript(x, "read 0 3;", 0);
        wrongScript(x, "read 0 0; read 2 0;", 10);
        wrongScript(x, "read 0 0; read 2 0", 18);
        wrongScript(x, "read 0 0; read 2 0 x", 19);
        wrongScript(x, "read 0 1234567890;", 7);
        wrongScript(x, "read 0 0000000000;", 7);
        wrongScript(x, "write 0 0 1000000000;", 10);
        wrongScript(x, "write 0 1 5;write 0 2 6;", 12);
        wrongScript(x, "write 0 1 5;read 0 2;", 12);
        wrongScript(x, "barrier 0;", 0);
        wrongScript(x, "barrier 4;", 0);
        wrongScript(x, "barrier 1;barrier 1;", 10);
        wrongScript(x, "flush 1;", 0);
        wrongScript(x, "barrier 1;flush 0;", 10);
        wrongScript(x, "barrier 1;flush 49;", 10);
        wrongScript(x, "commit;", 0);
        wrongScript(x, "barrier 1;commit;", 10);
        wrongScript(x, "abandon;", 0);
        wrongScript(x, "abandon 1;", 8);
        wrongScript(x, "rollback 0;", 0);
        wrongScript(x, "rollback 2;", 0);
        wrongScript(x, "evict 0 1;", 0);
        wrongScript(x, "evict 0 3;", 0);
        wrongScript(x, "crash;crash;crash", 17);
        wrongScript(x, "crash;" + (char) 255, 6);
        Check.due("undone as before", x.undo(), 9);
        Check.due("undone as before", x.peek(0, 0), 10);
    }
}
