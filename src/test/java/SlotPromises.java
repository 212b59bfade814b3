/** Promises 34 to 43: slots. */
public final class SlotPromises {
    public static void main(String[] args) {
        uses();
        contents();
        order();
        runs();
        twins();
        Check.end(34, 43);
    }

    private static void uses() {
        Check.promise(34);
        CheckpointSwap x = Check.system("system 4 6 lru;process int 4;");
        Check.due("free", x.slotUse(0), 0);
        x.writePage(0, 0, 1);
        x.evictPage(0, 0);
        Check.due("swap", x.slotUse(0), 1);
        x.startBarrier(1);
        Check.due("swap and barrier", x.slotUse(0), 5);
        x.writePage(0, 0, 2);
        Check.due("barrier", x.slotUse(0), 4);
        x.commitBarrier();
        Check.due("checkpoint", x.slotUse(0), 2);
        x.rollback(0);
        Check.due("swap and checkpoint", x.slotUse(0), 3);
        x.startBarrier(1);
        Check.due("all three", x.slotUse(0), 7);
        x.writePage(0, 0, 3);
        Check.due("checkpoint and barrier", x.slotUse(0), 6);
        Check.outside("no slot", () -> x.slotUse(6));
        Check.outside("no slot", () -> x.slotUse(-1));
        Check.outside("no slot", () -> x.slotUse(48));

        Check.promise(40);
        Check.due("one in two ways", x.sharedSlots(), 1);
        x.writePage(0, 1, 3);
        x.evictPage(0, 1);
        Check.due("one way does not count", x.sharedSlots(), 1);
        x.commitBarrier();
        Check.due("none", x.sharedSlots(), 0);
        x.startBarrier(1);
        Check.due("swap and barrier", x.sharedSlots(), 1);
        x.writeBarrier(9);
        Check.due("two of them", x.sharedSlots(), 2);
        x.commitBarrier();
        Check.due("swap and checkpoint", x.sharedSlots(), 2);
    }

    private static void contents() {
        CheckpointSwap x = Check.system("system 2 2 lru;process int 1;process float 3;");
        Check.promise(35);
        Check.due("at first", x.slotOwner(1), -1);
        Check.promise(36);
        Check.due("at first", x.slotStamp(1), -1);
        Check.promise(37);
        Check.due("at first", x.slotValue(1), 0);
        x.writePage(0, 0, 9);
        x.evictPage(0, 0);
        Check.script(x, "barrier 1;abandon;barrier 1;abandon;write 1 2 8;evict 1 2;write 1 2 7;");
        Check.promise(35);
        Check.due("page 0", x.slotOwner(0), 0);
        Check.due("page 10, though the slot is free", x.slotOwner(1), 10);
        Check.promise(36);
        Check.due("epoch 0", x.slotStamp(0), 0);
        Check.due("epoch 2", x.slotStamp(1), 2);
        Check.promise(37);
        Check.due("value", x.slotValue(0), 9);
        Check.due("value of a free slot", x.slotValue(1), 8);
        Check.promise(35);
        Check.outside("no slot", () -> x.slotOwner(2));
        Check.outside("no slot", () -> x.slotOwner(-1));
        Check.promise(36);
        Check.outside("no slot", () -> x.slotStamp(2));
        Check.outside("no slot", () -> x.slotStamp(-1));
        Check.promise(37);
        Check.outside("no slot", () -> x.slotValue(2));
        Check.outside("no slot", () -> x.slotValue(-1));
    }

    /** Slots 1 to 3 are used; of the free ones slot 0 has the stamp 0, and 4 and 5 were never written. */
    private static CheckpointSwap stamped() {
        CheckpointSwap x = Check.system("system 6 6 lru;process int 6;");
        Check.script(x, "write 0 0 1;write 0 1 2;evict 0 0;evict 0 1;barrier 1;abandon;"
                + "write 0 0 3;write 0 2 4;evict 0 2;write 0 3 5;evict 0 3;write 0 4 6;");
        return x;
    }

    private static void order() {
        CheckpointSwap x = stamped();
        Check.promise(38);
        Check.due("page 0 was in slot 0, 1 in 1, 2 in 2, 3 in 3", x.slotOwner(3), 3);
        Check.due("never written ones first", x.nextSlot(), 4);
        x.evictPage(0, 4);
        Check.due("it was taken", x.slotOf(0, 4), 4);
        Check.due("the next one never written", x.nextSlot(), 5);
        x.evictPage(0, 0);
        Check.due("then the least stamp", x.slotOf(0, 0), 5);
        Check.due("slot 0 has stamp 0", x.nextSlot(), 0);
        x.writePage(0, 1, 1);
        x.writePage(0, 4, 1);
        Check.due("the lowest number with it", x.nextSlot(), 0);
        x.evictPage(0, 4);
        Check.due("slot 1 has stamp 0, slot 4 has 1", x.nextSlot(), 1);

        Check.promise(42);
        Check.due("first", x.freeSlot(0), 1);
        Check.due("second", x.freeSlot(1), 4);
        Check.outside("third", () -> x.freeSlot(2));
        Check.outside("negative", () -> x.freeSlot(-1));
        x.writePage(0, 3, 1);
        x.writePage(0, 2, 1);
        Check.due("first", x.freeSlot(0), 1);
        Check.due("second", x.freeSlot(1), 2);
        Check.due("third", x.freeSlot(2), 3);
        Check.due("fourth", x.freeSlot(3), 4);
        Check.outside("fifth", () -> x.freeSlot(4));
        Check.due("nothing is taken", x.freeSlots(), 4);

        Check.promise(39);
        Check.due("four", x.freeSlots(), 4);
        Check.script(x, "evict 0 1;evict 0 2;evict 0 3;write 0 5 1;evict 0 5;");
        Check.due("none", x.freeSlots(), 0);
        Check.promise(38);
        Check.due("none is free", x.nextSlot(), -1);
        Check.promise(42);
        Check.outside("none is free", () -> x.freeSlot(0));
        Check.promise(39);
        x.crash();
        Check.due("all", x.freeSlots(), 6);
        Check.promise(42);
        Check.script(x, "write 0 0 1;write 0 1 1;write 0 2 1;evict 0 0;evict 0 1;evict 0 2;crash;");
        for (int slot = 0; slot < 6; slot++) {
            Check.due("all have the same stamp", x.freeSlot(slot), slot);
        }
        Check.script(x, "barrier 1;write 0 0 1;evict 0 0;crash;");
        for (int index = 0; index < 6; index++) {
            Check.due("slot 0 has the greatest stamp", x.freeSlot(index), (index + 1) % 6);
        }
    }

    private static void runs() {
        Check.promise(41);
        CheckpointSwap x = Check.system("system 6 7 lru;process int 6;");
        Check.due("all", x.longestRun(), 7);
        Check.script(x, "write 0 0 1;write 0 1 1;write 0 2 1;write 0 3 1;write 0 4 1;write 0 5 1;");
        Check.script(x, "evict 0 0;evict 0 1;evict 0 2;evict 0 3;evict 0 4;evict 0 5;");
        Check.due("the last one", x.longestRun(), 1);
        x.writePage(0, 0, 2);
        Check.due("the first and the last one", x.longestRun(), 1);
        x.writePage(0, 2, 2);
        x.writePage(0, 3, 2);
        Check.due("two in the middle", x.longestRun(), 2);
        x.writePage(0, 1, 2);
        Check.due("four at the beginning", x.longestRun(), 4);
        CheckpointSwap y = Check.system("system 1 1 lru;process int 2;");
        y.writePage(0, 0, 1);
        y.readPage(0, 1);
        Check.due("none", y.longestRun(), 0);
    }

    private static void twins() {
        Check.promise(43);
        CheckpointSwap x = Check.system("system 5 6 lru;process int 5;");
        Check.script(x, "write 0 0 4;write 0 1 4;write 0 2 5;write 0 3 4;write 0 4 0;");
        Check.script(x, "evict 0 0;evict 0 1;evict 0 2;evict 0 3;evict 0 4;");
        Check.due("two others", x.twins(0), 2);
        Check.due("slot 0 is one of them", x.twins(1), 2);
        Check.due("none", x.twins(2), 0);
        Check.due("a free slot with 0 does not count", x.twins(4), 0);
        x.writePage(0, 1, 9);
        Check.due("a free slot does not count", x.twins(0), 1);
        Check.missing("free", () -> x.twins(1));
        Check.missing("never written", () -> x.twins(5));
        Check.outside("no slot", () -> x.twins(6));
        Check.outside("no slot", () -> x.twins(-1));
    }
}
