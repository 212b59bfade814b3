/** Promises 34 to 43: slots. */
final class SlotEdges {
    private SlotEdges() {
    }

    static void run() {
        uses();
        contents();
        next();
        free();
        shared();
        runs();
        order();
        twins();
    }

    /** 48 slots, all the swap slots of pages. */
    private static CheckpointSwap filled() {
        CheckpointSwap x = Check.system("system 16 48 lru;" + Scenes.SIX);
        for (int k = 0; k < 48; k++) {
            x.writePage(k / 8, k % 8, k);
            x.evictPage(k / 8, k % 8);
        }
        return x;
    }

    private static void uses() {
        Document.promise(34, "Returns how a slot is used.", "Returns the sum of 1 if it is the swap slot of a page, 2 "
                + "if it is used by a checkpoint, and 4 if it is used by the barrier in progress;", "0 if it is free.");
        CheckpointSwap x = Check.after("system 2 2 lru;process int 1;", "write 0 0 1;");
        Check.due("free", x.slotUse(0), 0);
        x.evictPage(0, 0);
        Check.due("1", x.slotUse(0), 1);
        x.startBarrier(1);
        Check.due("1 and 4", x.slotUse(0), 5);
        x.writePage(0, 0, 2);
        Check.due("4", x.slotUse(0), 4);
        x.commitBarrier();
        Check.due("2", x.slotUse(0), 2);
        x.crash();
        Check.due("1 and 2", x.slotUse(0), 3);
        x.startBarrier(1);
        Check.due("1, 2 and 4", x.slotUse(0), 7);
        x.writePage(0, 0, 3);
        Check.due("2 and 4", x.slotUse(0), 6);
        Check.due("the other one", x.slotUse(1), 0);
        Check.script(x, "abandon;barrier 1;flush 1;commit;");
        Check.due("free again", x.slotUse(0), 0);
        Check.due("the last slot", filled().slotUse(47), 1);
        Document.promise(34, "Throws `IndexOutOfBoundsException` if there is no such slot");
        Refusal.noSlot((y, s) -> y.slotUse(s));
    }

    private static void contents() {
        CheckpointSwap x = filled();
        CheckpointSwap first = Check.system("system 1 48 lru;process int 1;");
        Document.promise(35, "Returns the owner of a slot.", "Returns 8 * process + page;");
        Check.due("the least", x.slotOwner(0), 0);
        Check.due("the greatest", x.slotOwner(47), 47);
        x.crash();
        Check.due("free, but written", x.slotOwner(47), 47);
        Document.promise(35, "NONE if it was never written.");
        Check.due("the first", first.slotOwner(0), -1);
        Check.due("the last", first.slotOwner(47), -1);
        Document.promise(35, "Throws `IndexOutOfBoundsException` if there is no such slot");
        Refusal.noSlot((y, s) -> y.slotOwner(s));

        Document.promise(36, "Returns the stamp of a slot.", "Returns the epoch;");
        Check.due("the least", x.slotStamp(0), 0);
        Check.script(x, "barrier 1;abandon;write 0 0 7;barrier 1;flush 1;");
        Check.due("the present one", x.slotStamp(0), 2);
        Check.due("the other one", x.slotStamp(1), 0);
        Document.promise(36, "NONE if it was never written.");
        Check.due("the first", first.slotStamp(0), -1);
        Check.due("the last", first.slotStamp(47), -1);
        Document.promise(36, "Throws `IndexOutOfBoundsException` if there is no such slot");
        Refusal.noSlot((y, s) -> y.slotStamp(s));

        Document.promise(37, "Returns the value in a slot.", "Returns the value;");
        Check.due("new", x.slotValue(0), 7);
        Check.due("free, but written", x.slotValue(47), 47);
        x.writePage(5, 7, Integer.MIN_VALUE);
        x.evictPage(5, 7);
        Check.due("the least", x.slotValue(x.slotOf(5, 7)), Integer.MIN_VALUE);
        Document.promise(37, "0 if it was never written.");
        Check.due("the first", first.slotValue(0), 0);
        Check.due("the last", first.slotValue(47), 0);
        Document.promise(37, "Throws `IndexOutOfBoundsException` if there is no such slot");
        Refusal.noSlot((y, s) -> y.slotValue(s));
    }

    private static void next() {
        Document.promise(38, "Returns the slot that a page would take now.", "Returns number of the slot;");
        CheckpointSwap x = Check.system("system 16 48 lru;" + Scenes.SIX);
        for (int k = 0; k < 48; k++) {
            Check.due("next", x.nextSlot(), k);
            x.writePage(k / 8, k % 8, k);
            Check.due("taken", x.evictPage(k / 8, k % 8), k);
        }
        Document.promise(38, "NONE if none is free.");
        Check.due("none", x.nextSlot(), -1);
        x.writePage(5, 7, 1);
        Check.due("the last one", x.nextSlot(), 47);
        CheckpointSwap one = new CheckpointSwap();
        Check.due("the only one", one.nextSlot(), 0);
        Check.due("none of two", Scenes.full().nextSlot(), -1);
    }

    private static void free() {
        Document.promise(39, "Returns the number of free slots.", "Returns 0 to 48.");
        CheckpointSwap x = Check.system("system 16 48 lru;" + Scenes.SIX);
        for (int k = 0; k < 48; k++) {
            Check.due("free", x.freeSlots(), 48 - k);
            x.writePage(k / 8, k % 8, k);
            x.evictPage(k / 8, k % 8);
        }
        Check.due("none", x.freeSlots(), 0);
        x.crash();
        Check.due("all", x.freeSlots(), 48);
        Check.due("the only one", new CheckpointSwap().freeSlots(), 1);
    }

    private static void shared() {
        Document.promise(40, "Returns the number of slots that are used in more than one of the three ways (see "
                + "slotUse()).", "Returns 0 to 48.");
        CheckpointSwap x = filled();
        Check.due("none", x.sharedSlots(), 0);
        for (int process = 0; process < 6; process++) {
            x.startBarrier(1 << process);
            Check.due("in two ways", x.sharedSlots(), 8 * process + 8);
            x.commitBarrier();
            Check.due("in two ways", x.sharedSlots(), 8 * process + 8);
        }
        x.startBarrier(63);
        Check.due("all in three ways", x.sharedSlots(), 48);
        x.writePage(0, 0, 1);
        Check.due("checkpoint and barrier", x.sharedSlots(), 48);
        x.abandonBarrier();
        Check.due("checkpoint alone", x.sharedSlots(), 47);
        CheckpointSwap y = Check.after("system 2 2 lru;process int 1;", "write 0 0 1;barrier 1;write 0 0 2;");
        Check.due("barrier alone", y.sharedSlots(), 0);
        Check.due("no processes", new CheckpointSwap().sharedSlots(), 0);
    }

    private static void runs() {
        Document.promise(41, "Returns the greatest number of free slots with successive numbers.", "Returns 0 to 48.");
        Check.due("all of 48", Check.system("system 1 48 lru;process int 1;").longestRun(), 48);
        Check.due("the only one", new CheckpointSwap().longestRun(), 1);
        CheckpointSwap x = filled();
        Check.due("none", x.longestRun(), 0);
        x.writePage(0, 0, 1);
        Check.due("the first", x.longestRun(), 1);
        x.writePage(5, 7, 1);
        Check.due("the first and the last do not meet", x.longestRun(), 1);
        x.writePage(5, 6, 1);
        Check.due("the last two", x.longestRun(), 2);
        x.writePage(2, 0, 1);
        x.writePage(2, 2, 1);
        Check.due("one between two", x.longestRun(), 2);
        x.writePage(2, 1, 1);
        Check.due("three in the middle", x.longestRun(), 3);
        x.writePage(0, 1, 1);
        x.writePage(0, 2, 1);
        x.writePage(0, 3, 1);
        Check.due("the first four", x.longestRun(), 4);
        x.evictPage(2, 1);
        Check.due("one is taken", x.longestRun(), 3);
        x.crash();
        Check.due("all again", x.longestRun(), 48);
    }

    private static void order() {
        Document.promise(42, "Returns a free slot in the order in which the free slots would be taken one after the "
                + "other.", "Returns number of the slot.");
        CheckpointSwap x = Check.system("system 16 48 lru;" + Scenes.SIX);
        for (int index = 0; index < 48; index++) {
            Check.due("never written", x.freeSlot(index), index);
        }
        Check.script(x, "write 0 0 1;evict 0 0;barrier 1;abandon;write 0 1 1;evict 0 1;write 0 2 1;evict 0 2;"
                + "barrier 1;abandon;write 0 3 1;evict 0 3;crash;");
        int[] last = {0, 1, 2, 3};
        for (int index = 0; index < 48; index++) {
            Check.due("stamps", x.freeSlot(index), index < 44 ? index + 4 : last[index - 44]);
        }
        for (int k = 0; k < 16; k++) {
            x.writePage(k / 8, k % 8, 1);
        }
        int[] order = new int[16];
        for (int k = 0; k < 16; k++) {
            order[k] = x.freeSlot(k);
        }
        for (int k = 0; k < 16; k++) {
            Check.due("taken", x.evictPage(k / 8, k % 8), order[k]);
        }
        Document.promise(42, "Throws `IndexOutOfBoundsException` if there is no such index");
        Refusal.outside("48 of 48", () -> Check.system("system 16 48 lru;" + Scenes.SIX), y -> y.freeSlot(48));
        Refusal.outside("-1", () -> Check.system("system 16 48 lru;" + Scenes.SIX), y -> y.freeSlot(-1));
        Refusal.outside("0 of none", SlotEdges::filled, y -> y.freeSlot(0));
        Refusal.outside("0 of none", Scenes::full, y -> y.freeSlot(0));
        Check.due("free slots of the scene", Scenes.busy().freeSlots(), 3);
        Check.due("the last of three", Scenes.busy().freeSlot(2), 6);
        for (int index : new int[] {3, 4, 48, -1, Integer.MIN_VALUE, Integer.MAX_VALUE}) {
            Refusal.outside("index " + index, Scenes::busy, y -> y.freeSlot(index));
        }
    }

    private static void twins() {
        Document.promise(43, "Counts the other slots that are not free and contain the same value as a slot.",
                "Returns the number.");
        CheckpointSwap x = filled();
        Check.due("all are different", x.twins(0), 0);
        CheckpointSwap y = Check.system("system 16 48 lru;" + Scenes.SIX);
        for (int k = 0; k < 48; k++) {
            y.writePage(k / 8, k % 8, 0);
            y.evictPage(k / 8, k % 8);
            Check.due("those before", y.twins(k), k);
            Check.due("the first", y.twins(0), k);
        }
        y.writePage(5, 7, 0);
        Check.due("a free slot with the value does not count", y.twins(0), 46);
        CheckpointSwap z = Check.after("system 3 6 lru;process int 3;", "write 0 0 5;evict 0 0;barrier 1;commit;"
                + "write 0 0 6;write 0 1 5;evict 0 1;");
        Check.due("a slot of a checkpoint", z.twins(1), 1);
        Check.due("a slot of a checkpoint", z.twins(0), 1);
        Check.script(z, "write 0 2 5;barrier 1;write 0 2 5;");
        Check.due("a slot of the barrier", z.twins(0), 2);
        Document.promise(43, "Throws `IndexOutOfBoundsException` if there is no such slot");
        Refusal.noSlot((w, s) -> w.twins(s));
        Document.promise(43, "NoSuchElementException if the slot is free");
        Refusal.missing("never written", Scenes::quiet, w -> w.twins(6));
        Refusal.missing("written before", SlotEdges::crashed, w -> w.twins(1));
        Refusal.missing("the only one", Scenes::unparsed, w -> w.twins(0));
    }

    private static CheckpointSwap crashed() {
        CheckpointSwap x = Scenes.full();
        x.crash();
        return x;
    }
}
