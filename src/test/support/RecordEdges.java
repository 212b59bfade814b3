/** Sections 3 and 4 of the description: barriers, crash and rollback. */
final class RecordEdges {
    private RecordEdges() {
    }

    static void run() {
        epochs();
        records();
        order();
        writing();
        evicted();
        writeAccess();
        commits();
        abandoned();
        restored();
        restoredWithout();
        crashed();
        kept();
    }

    private static void epochs() {
        Document.section(3, "The epoch is the number of barriers that have been started.");
        CheckpointSwap x = Check.system("system 2 4 lru;process int 2;process int 1;");
        Check.due("none", x.epoch(), 0);
        x.startBarrier(1);
        Check.due("the first, in progress", x.epoch(), 1);
        x.abandonBarrier();
        x.startBarrier(2);
        x.commitBarrier();
        Check.due("abandoned or committed", x.epoch(), 2);
        x.startBarrier(3);
        x.crash();
        Check.due("crashed", x.epoch(), 3);
        Document.section(3, "A barrier is started for a set of processes;", "there is at most one in progress.");
        x.startBarrier(2);
        Check.due("the set", x.barrierSet(), 2);
        Check.state("a second one", () -> x.startBarrier(1));
        Check.state("the same again", () -> x.startBarrier(2));
        Check.due("the set", x.barrierSet(), 2);
        x.abandonBarrier();
        Check.due("one after the other", x.startBarrier(1), 0);
    }

    private static void records() {
        Document.section(3, "When it is started, the epoch increases by 1, and each page of these processes gets a "
                + "record: its swap slot if it has one;");
        CheckpointSwap x = Check.after("system 4 6 lru;process int 4;process int 2;",
                "write 0 0 1;evict 0 0;write 0 1 2;evict 0 1;read 0 1;write 0 2 3;read 0 3;write 1 0 4;evict 1 0;"
                + "write 1 1 5;");
        int pending = x.startBarrier(1);
        Check.due("epoch", x.epoch(), 1);
        Check.due("page 0 in a slot", x.slotUse(x.slotOf(0, 0)), 5);
        Check.due("page 1 in a frame and a slot", x.slotUse(x.slotOf(0, 1)), 5);
        Check.due("the other process", x.slotUse(x.slotOf(1, 0)), 1);
        Document.section(3, "that it is still to be written if it is dirty;");
        Check.due("page 2 alone", pending, 1);
        Check.due("page 2", x.pendingPage(0), 2);
        Document.section(3, "A slot in a record is used by the barrier in progress.");
        x.writePage(0, 0, 9);
        x.writePage(0, 1, 9);
        Check.due("slot 0", x.slotUse(0), 4);
        Check.due("slot 1", x.slotUse(1), 4);
        Document.section(3, "otherwise that it is empty (its value is 0).");
        x.writePage(0, 3, 8);
        x.writeBarrier(48);
        x.commitBarrier();
        Check.due("page 3 at the start", x.checkpointSlot(0, 3), -1);
        Check.due("page 3 at the start", x.checkpointValue(0, 3), 0);
        Check.due("page 2 at the start", x.checkpointValue(0, 2), 3);
    }

    private static void order() {
        Document.section(3, "The pages still to be written are written by ascending process, then by ascending page.");
        CheckpointSwap x = Check.after("system 6 6 lru;process int 8;process int 1;process int 2;",
                "write 2 1 1;write 1 0 2;write 0 7 3;write 2 0 4;write 0 0 5;write 0 3 6;barrier 7;");
        int[] due = {0, 3, 7, 8, 16, 17};
        for (int k = 0; k < due.length; k++) {
            Check.due("next", x.pendingPage(0), due[k]);
            Check.due("left", x.writeBarrier(1), 5 - k);
            Check.due("written", x.slotOwner(k), due[k]);
        }
    }

    private static void writing() {
        Document.section(3, "Writing such a page: it needs a slot (see 1), which becomes its record;");
        CheckpointSwap x = Check.after("system 2 2 lru;process int 3;",
                "write 0 0 4;evict 0 0;barrier 1;abandon;write 0 1 5;write 0 0 6;barrier 1;");
        x.writeBarrier(1);
        Check.due("the free slot with the least stamp", x.slotOf(0, 0), 1);
        Check.due("record and swap slot", x.slotUse(1), 5);
        Check.due("value", x.slotValue(1), 6);
        Check.due("stamp", x.slotStamp(1), 2);
        Check.due("the last free slot", x.writeBarrier(48), 0);
        Check.due("no slot is left", x.freeSlots(), 0);
        Document.section(3, "the page stays resident and is clean then.");
        Check.due("page 0", x.pageState(0, 0), 2);
        Check.due("its frame", x.frameOf(0, 0), 1);
        Check.due("page 1", x.pageState(0, 1), 2);
    }

    private static void evicted() {
        Document.section(3, "When a page that is still to be written is evicted, the slot that it gets becomes its "
                + "record.");
        CheckpointSwap x = Check.after("system 2 3 lru;process int 2;process int 2;",
                "write 0 0 4;write 0 1 5;barrier 1;");
        x.evictPage(0, 1);
        Check.due("by evictPage", x.pendingPages(), 1);
        Check.due("record and swap slot", x.slotUse(0), 5);
        x.readPage(1, 0);
        x.readPage(1, 1);
        Check.due("by a fault", x.pendingPages(), 0);
        Check.due("record and swap slot", x.slotUse(1), 5);
        x.writePage(0, 0, 7);
        x.commitBarrier();
        Check.due("page 0", x.checkpointValue(0, 0), 4);
        Check.due("page 1", x.checkpointSlot(0, 1), 0);
        CheckpointSwap y = Check.after("system 2 3 lru;process int 2;process int 1;",
                "write 0 0 4;write 1 0 5;barrier 1;");
        y.evictPage(1, 0);
        Check.due("of another process", y.slotUse(0), 1);
        Check.due("of another process", y.pendingPages(), 1);
    }

    private static void writeAccess() {
        Document.section(3, "When a write access meets a page that is still to be written, the page is written for "
                + "the barrier first, and then the access goes on.");
        CheckpointSwap x = Check.after("system 1 1 lru;process int 1;", "write 0 0 4;barrier 1;");
        Check.due("the last free slot", x.writePage(0, 0, 4), 4);
        Check.due("the slot has the former value", x.slotValue(0), 4);
        Check.due("for the barrier alone", x.slotUse(0), 4);
        Check.due("dirty", x.pageState(0, 0), 3);
        Check.due("nothing is to be written", x.pendingPages(), 0);
        Check.due("one value in slots", x.total(2), 1);
        Check.due("one access more", x.total(0), 2);
        Check.due("the second write needs no slot", x.writePage(0, 0, 6), 4);
        x.commitBarrier();
        Check.due("the value at the start", x.checkpointValue(0, 0), 4);
        CheckpointSwap y = Check.after("system 1 1 lru;process int 1;", "write 0 0 4;barrier 1;read 0 0;");
        Check.due("a read access does not", y.pendingPages(), 1);
    }

    private static void commits() {
        Document.section(3, "A barrier can be committed when no page is still to be written.");
        CheckpointSwap x = Check.after("system 3 6 lru;process int 2;process int 1;",
                "write 0 0 4;write 0 1 5;barrier 3;");
        Check.unsupported("two pages", () -> x.commitBarrier());
        x.writeBarrier(1);
        Check.unsupported("one page", () -> x.commitBarrier());
        x.writeBarrier(1);
        Check.due("none", x.commitBarrier(), 0);
        Document.section(3, "Then the records become the checkpoints of its processes, in place of their former ones, "
                + "and their epoch is that of the barrier.");
        Check.due("process 0", x.checkpointEpoch(0), 1);
        Check.due("process 1, all empty", x.checkpointEpoch(1), 1);
        Check.due("slot", x.checkpointSlot(0, 1), 1);
        Check.script(x, "write 0 0 7;barrier 1;flush 1;commit;");
        Check.due("in place of the former one", x.checkpointSlot(0, 0), 2);
        Check.due("page 1 stays in its slot", x.checkpointSlot(0, 1), 1);
        Check.due("process 0", x.checkpointEpoch(0), 2);
        Check.due("process 1 was not in the set", x.checkpointEpoch(1), 1);
        Document.section(3, "The slots of the records are used by the checkpoints then, those of the former "
                + "checkpoints are not used by them any more.");
        Check.due("the new one", x.slotUse(2), 3);
        Check.due("the one of both", x.slotUse(1), 3);
        Check.due("the former one", x.slotUse(0), 0);
    }

    private static void abandoned() {
        Document.section(3, "A barrier can also be abandoned;", "then its records are gone.");
        CheckpointSwap x = Check.after("system 3 6 lru;process int 3;", "write 0 0 4;barrier 1;flush 1;commit;"
                + "write 0 0 5;write 0 1 6;barrier 1;flush 1;write 0 0 7;");
        Check.due("the slot of a record alone", x.slotUse(1), 4);
        Check.due("with a page still to be written", x.abandonBarrier(), 1);
        Check.due("gone", x.slotUse(1), 0);
        Check.due("nothing is to be written", x.pendingPages(), 0);
        Check.due("the former checkpoint stays", x.checkpointSlot(0, 0), 0);
        Check.due("its epoch stays", x.checkpointEpoch(0), 1);
        Check.due("the page stays dirty", x.dirtyPages(0), 3);
        Check.due("a write access needs no slot now", x.writePage(0, 1, 8), 6);
        Check.due("values in slots", x.total(2), 2);
    }

    private static void restored() {
        Document.section(4, "Restoring a process that has a checkpoint means: none of its pages is resident any more, "
                + "each page loses its swap slot, and then each page gets the slot of its record in the checkpoint as "
                + "its swap slot, with the value in it, or has the value 0 if the record is empty.");
        CheckpointSwap x = Check.after("system 5 9 lru;process int 4;process int 1;",
                "write 0 0 1;write 0 1 2;write 1 0 3;barrier 1;flush 2;commit;");
        Check.script(x, "write 0 0 5;evict 0 0;write 0 2 6;write 0 3 7;evict 0 3;");
        int slot = x.slotOf(0, 3);
        Check.due("values", x.rollback(0), 13);
        Check.due("no page is resident", x.residentPages(0), 0);
        Check.due("no page is dirty", x.dirtyPages(0), 0);
        Check.due("page 0 in the slot of its record", x.slotOf(0, 0), x.checkpointSlot(0, 0));
        Check.due("page 0 with the value in it", x.peek(0, 0), 1);
        Check.due("page 1 in the slot of its record", x.slotOf(0, 1), x.checkpointSlot(0, 1));
        Check.due("page 2 with an empty record", x.peek(0, 2) + x.pageState(0, 2), 0);
        Check.due("page 3 with an empty record", x.peek(0, 3) + x.pageState(0, 3), 0);
        Check.due("page 3 lost its slot", x.slotUse(slot), 0);
        Check.due("the frames are free", x.frameOwner(0), -1);
        Check.due("the other process stays", x.pageState(1, 0), 3);
    }

    private static void restoredWithout() {
        Document.section(4, "Restoring a process without a checkpoint means that all its pages are not resident, have "
                + "no swap slot and have the value 0.");
        CheckpointSwap x = Check.after("system 2 9 lru;process int 4;", "write 0 0 1;write 0 1 2;write 0 2 3;"
                + "read 0 0;");
        Check.due("no checkpoint", x.crash(), 0);
        for (int page = 0; page < 4; page++) {
            Check.due("state", x.pageState(0, page), 0);
            Check.due("frame", x.frameOf(0, page), -1);
            Check.due("slot", x.slotOf(0, page), -1);
            Check.due("value", x.peek(0, page), 0);
        }
        Check.due("slots", x.freeSlots(), 9);
        Check.due("frames", x.victim(), -1);
    }

    private static void crashed() {
        Document.section(4, "In a crash a barrier in progress is abandoned, all processes are restored, and there are "
                + "no recent accesses any more.");
        CheckpointSwap x = Scenes.busy();
        Check.due("checkpoints of 0 and 1", x.crash(), 3);
        Check.due("no barrier", x.barrierSet(), 0);
        Check.due("nothing is to be written", x.pendingPages(), 0);
        Check.due("only checkpoints and swap slots", x.slotUse(0) + x.slotUse(1) + x.slotUse(2), 9);
        Check.due("the record is gone", x.freeSlots(), 4);
        Check.due("restored", x.total(5) + x.residentPages(0) + x.residentPages(1) + x.residentPages(2), 0);
        Check.outside("no recent access", () -> x.recentAccess(0));
        Check.due("not committed", x.total(3), 1);
        Check.due("another barrier can be started", x.startBarrier(7), 0);
        Check.due("a crash of a system without processes", new CheckpointSwap().crash(), 0);
    }

    private static void kept() {
        Document.section(4, "The epoch, the counts of accesses, the stamps, the owners and the values of the slots "
                + "stay.");
        CheckpointSwap x = Scenes.busy();
        StringBuilder before = new StringBuilder();
        StringBuilder after = new StringBuilder();
        slots(x, before);
        x.crash();
        slots(x, after);
        Check.dueText("epoch, accesses, faults and slots", after.toString(), before.toString());
        Check.due("free slots keep what they contain", x.slotValue(3), 5);
        Check.due("a free slot with a value", x.slotUse(3), 0);
        x.readPage(0, 0);
        Check.due("the time goes on", x.frameTime(0, 0), 7);
        Check.due("the time goes on", x.frameTime(0, 1), 7);
        Check.due("the barriers go on", x.startBarrier(1) + x.epoch(), 3);
    }

    private static void slots(CheckpointSwap x, StringBuilder text) {
        text.append(x.epoch()).append(' ').append(x.total(0)).append(' ').append(x.total(1)).append(' ')
                .append(x.total(2));
        for (int slot = 0; slot < x.slotCount(); slot++) {
            text.append(' ').append(x.slotStamp(slot)).append(' ').append(x.slotOwner(slot));
            text.append(' ').append(x.slotValue(slot));
        }
    }
}
