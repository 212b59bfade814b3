/** Sections 1 and 2 of the description: the system, its limits, and accesses. */
final class SystemEdges {
    private static final int NAN = 2143289344;
    private static final String SIX = "process int 8;process float 8;process int 8;process float 8;process int 8;"
            + "process float 8;";

    private SystemEdges() {
    }

    static void run() {
        limits();
        sets();
        values();
        nanPatterns();
        otherValues();
        residence();
        swapSlots();
        slotContents();
        slotUses();
        takenSlots();
        times();
        freeFrames();
        victims();
        evictions();
        writes();
        recent();
    }

    private static int parsed(String text) {
        return Check.parse(new CheckpointSwap(), text);
    }

    private static void limits() {
        Document.section(1, "There are at most 6 processes, numbered from 0;");
        CheckpointSwap six = Check.system("system 1 1 lru;" + SIX);
        Check.due("six processes", six.processCount(), 6);
        Check.due("the first is 0", six.peek(0, 0), 0);
        Check.due("the last is 5", six.peek(5, 0), 0);
        Check.outside("6", () -> six.peek(6, 0));
        Check.outside("-1", () -> six.peek(-1, 0));
        Check.due("seven processes", parsed("system 1 1 lru;" + SIX + "process int 8;"), -1);

        Document.section(1, "each has 1 to 8 pages, numbered from 0, and a kind (0 int, 1 float).");
        CheckpointSwap x = Check.system("system 1 1 lru;process int 1;process float 8;");
        Check.due("one page", x.pageCount(0), 1);
        Check.due("eight pages", x.pageCount(1), 8);
        Check.due("the first is 0", x.peek(1, 0), 0);
        Check.due("the last is 7", x.peek(1, 7), 0);
        Check.outside("8", () -> x.peek(1, 8));
        Check.outside("-1", () -> x.peek(1, -1));
        Check.outside("page 1 of one", () -> x.peek(0, 1));
        Check.due("int", x.kindOf(0), 0);
        Check.due("float", x.kindOf(1), 1);
        Check.due("no page", parsed("system 1 1 lru;process int 0;"), -1);
        Check.due("nine pages", parsed("system 1 1 lru;process int 9;"), -1);

        Document.section(1, "There are 1 to 16 frames and 1 to 48 slots, both numbered from 0, and a policy (0 to 2).");
        limitsOfFramesAndSlots();
    }

    private static void limitsOfFramesAndSlots() {
        CheckpointSwap least = Check.system("system 1 1 lru;process int 1;");
        CheckpointSwap most = Check.system("system 16 48 clean;process int 1;");
        Check.due("frame 0 of one", least.frameOwner(0), -1);
        Check.outside("frame 1 of one", () -> least.frameOwner(1));
        Check.due("frame 15 of sixteen", most.frameOwner(15), -1);
        Check.outside("frame 16 of sixteen", () -> most.frameOwner(16));
        Check.due("slot 0 of one", least.slotOwner(0), -1);
        Check.outside("slot 1 of one", () -> least.slotOwner(1));
        Check.due("slot 47 of 48", most.slotOwner(47), -1);
        Check.outside("slot 48 of 48", () -> most.slotOwner(48));
        Check.due("policy 0", least.total(7), 0);
        Check.due("policy 1", Check.system("system 1 1 fifo;process int 1;").total(7), 1);
        Check.due("policy 2", most.total(7), 2);
        Check.due("no frame", parsed("system 0 1 lru;process int 1;"), -1);
        Check.due("17 frames", parsed("system 17 1 lru;process int 1;"), -1);
        Check.due("no slot", parsed("system 1 0 lru;process int 1;"), -1);
        Check.due("49 slots", parsed("system 1 49 lru;process int 1;"), -1);
    }

    private static void sets() {
        Document.section(1, "Sets of processes and of pages are bit masks;", "bit k stands for number k.");
        CheckpointSwap x = Check.system("system 16 48 lru;" + SIX);
        for (int k = 0; k < 8; k++) {
            x.writePage(5, k, 1);
            Check.due("resident pages up to " + k, x.residentPages(5), (2 << k) - 1);
            Check.due("dirty pages up to " + k, x.dirtyPages(5), (2 << k) - 1);
        }
        for (int k = 0; k < 6; k++) {
            x.startBarrier(1 << k);
            x.writeBarrier(48);
            x.commitBarrier();
            Check.due("epoch of " + k, x.checkpointEpoch(k), k + 1);
            Check.due("epoch of the next", k == 5 ? -1 : x.checkpointEpoch(k + 1), -1);
        }
        Check.due("all have checkpoints", x.crash(), 63);
        Check.due("the set of all", x.startBarrier(63), 0);
        Check.due("the set of all", x.barrierSet(), 63);
    }

    private static void values() {
        Document.section(1, "A page has a value, which is an int;", "at first it is 0.");
        CheckpointSwap x = Check.system("system 16 48 lru;" + SIX);
        for (int id = 0; id < 48; id++) {
            Check.due("at first " + id, x.peek(id / 8, id % 8), 0);
        }
        for (int value : new int[] {Integer.MAX_VALUE, Integer.MIN_VALUE, -1, 1, 0}) {
            x.writePage(0, 0, value);
            Check.due("written", x.peek(0, 0), value);
            Check.due("read", x.readPage(0, 0), value);
        }
    }

    private static void nanPatterns() {
        Document.section(1, "In a process of the kind float the value is the bit pattern of a float: each value that "
                + "is written there and is a pattern of NaN (the eight bits below the sign bit are all 1 and the "
                + "lowest 23 bits are not all 0) becomes 2143289344 (0x7fc00000).");
        CheckpointSwap x = Check.system("system 2 2 lru;process float 1;process int 1;");
        for (int sign : new int[] {0, 0x80000000}) {
            for (int bit = 0; bit < 23; bit++) {
                x.writePage(0, 0, sign | 0x7f800000 | 1 << bit);
                Check.due("only bit " + bit + " below", x.peek(0, 0), NAN);
            }
            x.writePage(0, 0, sign | 0x7fffffff);
            Check.due("all bits", x.peek(0, 0), NAN);
            x.writePage(0, 0, sign | 0x7f800000);
            Check.due("no bit below", x.peek(0, 0), sign | 0x7f800000);
            for (int bit = 23; bit < 31; bit++) {
                int value = sign | 0x7fffffff & ~(1 << bit);
                x.writePage(0, 0, value);
                Check.due("all but bit " + bit, x.peek(0, 0), value);
            }
        }
        x.writePage(0, 0, NAN);
        Check.due("the pattern itself", x.peek(0, 0), NAN);
        Check.due("is the previous value too", x.writePage(0, 0, -1), NAN);
        x.evictPage(0, 0);
        Check.due("in the slot too", x.slotValue(0), NAN);
    }

    private static void otherValues() {
        Document.section(1, "All other values are written as they are.");
        CheckpointSwap x = Check.system("system 2 2 lru;process float 1;process int 1;");
        for (int value : new int[] {0x80000000, 1, 0x80000001, 0x007fffff, 0x00800000, 0x7f7fffff, 0xff7fffff,
                0x7f800000}) {
            x.writePage(0, 0, value);
            Check.due("float " + value, x.peek(0, 0), value);
        }
        for (int value : new int[] {0x7f800001, 0x7fffffff, 0xff800001, 0xffffffff, NAN}) {
            x.writePage(1, 0, value);
            Check.due("a pattern of NaN as an int " + value, x.peek(1, 0), value);
        }
    }

    private static void residence() {
        Document.section(1, "A page is resident if it is in a frame;", "a frame contains at most one page.");
        CheckpointSwap x = Check.system("system 3 48 lru;process int 8;process int 8;");
        for (int k = 0; k < 40; k++) {
            int id = k * 7 % 16;
            x.writePage(id / 8, id % 8, k);
            int resident = Integer.bitCount(x.residentPages(0)) + Integer.bitCount(x.residentPages(1));
            Check.due("pages in frames", resident, Math.min(k + 1, 3));
            for (int frame = 0; frame < Math.min(k + 1, 3); frame++) {
                int owner = x.frameOwner(frame);
                Check.due("the frame of its page", x.frameOf(owner / 8, owner % 8), frame);
                Check.due("it is resident", x.residentPages(owner / 8) >> owner % 8 & 1, 1);
            }
        }
        Document.section(1, "A resident page is clean or dirty, as described below.");
        x.crash();
        x.readPage(1, 7);
        Check.due("clean", x.pageState(1, 7), 2);
        x.writePage(1, 7, 0);
        Check.due("dirty", x.pageState(1, 7), 3);
        Check.due("dirty", x.dirtyPages(1), 128);
        x.evictPage(1, 7);
        Check.due("not resident, not dirty", x.dirtyPages(1), 0);
    }

    private static void swapSlots() {
        Document.section(1, "A page can have a swap slot, which contains its present value.");
        CheckpointSwap x = Check.system("system 2 9 clean;process int 8;");
        for (int k = 0; k < 30; k++) {
            x.writePage(0, k % 5, 100 + k);
            x.readPage(0, k % 7);
            for (int page = 0; page < 8; page++) {
                int slot = x.slotOf(0, page);
                Check.due("value in the slot", slot < 0 ? x.peek(0, page) : x.slotValue(slot), x.peek(0, page));
            }
        }
        Document.section(1, "A page that is not resident and has no swap slot has the value 0.");
        Check.due("never accessed", x.peek(0, 7) + x.pageState(0, 7), 0);
        x.crash();
        for (int page = 0; page < 8; page++) {
            Check.due("after a crash", x.peek(0, page) + x.pageState(0, page), 0);
        }
        x.readPage(0, 7);
        Check.due("read and evicted", x.evictPage(0, 7), -1);
        Check.due("read and evicted", x.peek(0, 7) + x.pageState(0, 7), 0);
    }

    private static void slotContents() {
        Document.section(1, "A slot contains a value, the page for which it was written last (its owner), and a "
                + "stamp, the epoch at which that happened (NONE before).");
        CheckpointSwap x = Check.system("system 2 1 lru;process int 1;process int 8;");
        Check.due("no stamp", x.slotStamp(0), -1);
        Check.due("no owner", x.slotOwner(0), -1);
        Check.due("no value", x.slotValue(0), 0);
        x.writePage(0, 0, 5);
        x.evictPage(0, 0);
        Check.due("the least epoch", x.slotStamp(0), 0);
        Check.due("the least owner", x.slotOwner(0), 0);
        Check.due("value", x.slotValue(0), 5);
        Check.script(x, "write 0 0 6;barrier 1;abandon;write 1 7 8;evict 1 7;");
        Check.due("the latest epoch", x.slotStamp(0), 1);
        Check.due("the latest owner", x.slotOwner(0), 15);
        Check.due("the latest value", x.slotValue(0), 8);
    }

    private static void slotUses() {
        Document.section(1, "A slot is used by the page whose swap slot it is, by the checkpoint of a process, and by "
                + "the barrier in progress;", "it can be used in several of these ways at the same time.");
        CheckpointSwap x = Check.after("system 1 3 lru;process int 1;", "write 0 0 4;evict 0 0;barrier 1;commit;"
                + "barrier 1;");
        Check.due("all three ways", x.slotUse(0), 7);
        Check.due("two slots are left", x.freeSlots(), 2);
        Document.section(1, "It is free if it is not used in any way.");
        x.writePage(0, 0, 5);
        Check.due("checkpoint and barrier", x.slotUse(0), 6);
        Check.due("not free", x.freeSlots(), 2);
        x.abandonBarrier();
        Check.due("checkpoint", x.slotUse(0), 2);
        Check.due("not free", x.freeSlots(), 2);
        x.evictPage(0, 0);
        x.startBarrier(1);
        x.writePage(0, 0, 6);
        Check.due("barrier", x.slotUse(1), 4);
        Check.due("not free", x.freeSlots(), 1);
        x.commitBarrier();
        Check.due("not used in any way", x.slotUse(0), 0);
        Check.due("free", x.freeSlots(), 2);
    }

    private static void takenSlots() {
        Document.section(1, "Whenever a page needs a slot, it takes, of the free slots, the one with the least stamp;");
        CheckpointSwap x = Check.after("system 5 3 lru;process int 5;",
                "barrier 1;abandon;write 0 0 1;evict 0 0;barrier 1;abandon;write 0 1 1;evict 0 1;write 0 0 2;"
                + "write 0 1 2;");
        x.evictPage(0, 1);
        Check.due("never written comes before stamp 1", x.slotOf(0, 1), 2);
        x.evictPage(0, 0);
        Check.due("stamp 1 comes before stamp 2", x.slotOf(0, 0), 0);
        Check.script(x, "write 0 2 1;barrier 1;");
        x.writeBarrier(1);
        Check.due("the last free one", x.slotOf(0, 2), 1);

        CheckpointSwap later = Check.after("system 3 3 lru;process int 3;", "barrier 1;abandon;write 0 0 1;"
                + "write 0 1 1;write 0 2 1;evict 0 0;evict 0 1;evict 0 2;barrier 1;abandon;write 0 0 2;evict 0 0;"
                + "write 0 0 3;write 0 2 3;");
        Check.due("slot 0 has stamp 2, slot 2 has stamp 1", later.evictPage(0, 0), 2);

        Document.section(1, "of several the one with the lowest number.");
        CheckpointSwap y = Check.after("system 4 4 lru;process int 4;",
                "write 0 0 1;write 0 1 1;write 0 2 1;write 0 3 1;evict 0 0;evict 0 1;evict 0 2;evict 0 3;");
        for (int page = 0; page < 4; page++) {
            Check.due("never written", y.slotOf(0, page), page);
        }
        Check.script(y, "write 0 3 2;write 0 1 2;write 0 2 2;evict 0 2;");
        Check.due("the same stamp", y.slotOf(0, 2), 1);

        Document.section(1, "Its value is written there, it becomes the owner and the slot its swap slot, and the "
                + "stamp becomes the present epoch.");
        CheckpointSwap z = Check.after("system 1 48 lru;process int 1;process int 8;", "barrier 2;abandon;");
        z.writePage(1, 7, Integer.MIN_VALUE);
        z.startBarrier(2);
        z.readPage(0, 0);
        Check.due("value", z.slotValue(0), Integer.MIN_VALUE);
        Check.due("owner", z.slotOwner(0), 15);
        Check.due("swap slot", z.slotOf(1, 7), 0);
        Check.due("the epoch of the barrier in progress", z.slotStamp(0), 2);
    }

    private static void times() {
        Document.section(2, "Reading or writing a page is an access.", "The accesses are counted;",
                "the number of an access, from 1, is its time.");
        CheckpointSwap x = Check.system("system 2 4 lru;process int 3;");
        Check.due("none", x.total(0), 0);
        x.readPage(0, 0);
        Check.due("the first", x.total(0), 1);
        Check.due("its time", x.frameTime(0, 0), 1);
        x.writePage(0, 1, 1);
        Check.due("the second", x.total(0), 2);
        Check.due("its time", x.frameTime(1, 0), 2);
        x.peek(0, 0);
        x.evictPage(0, 0);
        x.startBarrier(1);
        x.writeBarrier(1);
        Check.due("nothing else is one", x.total(0), 2);

        Document.section(2, "If the page is resident, the access is a hit.", "Otherwise it is a fault: if there is a "
                + "free");
        x.readPage(0, 1);
        x.writePage(0, 1, 1);
        Check.due("hits", x.total(1), 2);
        x.writePage(0, 0, 3);
        Check.due("a fault", x.total(1), 3);

        Document.section(2, "The time of the access becomes the use time of the frame and, with a fault, also its "
                + "load time.");
        Check.due("use by a fault", x.frameTime(0, 0), 5);
        Check.due("load by a fault", x.frameTime(0, 1), 5);
        Check.due("use by a hit", x.frameTime(1, 0), 4);
        Check.due("load stays", x.frameTime(1, 1), 2);
    }

    private static void freeFrames() {
        Document.section(2, "Otherwise it is a fault: if there is a free frame, the page comes into the one with the "
                + "lowest number;");
        CheckpointSwap x = Check.system("system 16 4 lru;process int 8;process int 8;process int 8;");
        for (int id = 0; id < 16; id++) {
            x.readPage(id / 8, id % 8);
            Check.due("the lowest free frame", x.frameOf(id / 8, id % 8), id);
        }
        x.evictPage(1, 7);
        x.evictPage(0, 3);
        x.readPage(2, 0);
        Check.due("of two the lowest", x.frameOf(2, 0), 3);
        x.readPage(2, 1);
        Check.due("the last one", x.frameOf(2, 1), 15);

        Document.section(2, "if not, the victim is evicted first, and the page comes into its frame.");
        Check.due("the victim", x.victim(), 0);
        x.readPage(2, 2);
        Check.due("in its frame", x.frameOf(2, 2), 0);
        Check.due("the victim is gone", x.frameOf(0, 0), -1);
        CheckpointSwap one = Check.after("system 1 1 lru;process int 2;", "write 0 0 5;read 0 1;");
        Check.due("the only frame", one.frameOf(0, 1), 0);
        Check.due("the victim has a slot", one.slotOf(0, 0), 0);

        Document.section(2, "It is clean then, and keeps its swap slot if it has one.");
        Check.due("without a slot", one.pageState(0, 1) + 10 * one.slotOf(0, 1), 2 - 10);
        one.readPage(0, 0);
        Check.due("with a slot", one.pageState(0, 0) + 10 * one.slotOf(0, 0), 2);
    }

    private static void victims() {
        Document.section(2, "The victim is chosen by the policy, 0: the frame with the least use time;");
        String rows = "read 0 0;write 0 1 1;read 0 2;read 0 0;";
        Check.due("use times 4, 2, 3", Check.after("system 3 4 lru;process int 4;", rows).victim(), 1);
        Document.section(2, "1: the frame with the least load time;");
        Check.due("load times 1, 2, 3", Check.after("system 3 4 fifo;process int 4;", rows).victim(), 0);
        Document.section(2, "2: of the frames with clean pages the one with the least use time, or, if there are "
                + "none, as with policy 0.");
        CheckpointSwap x = Check.after("system 3 4 clean;process int 4;", rows);
        Check.due("of the clean ones 0 and 2", x.victim(), 2);
        x.writePage(0, 2, 1);
        Check.due("the only clean one", x.victim(), 0);
        x.writePage(0, 0, 1);
        Check.due("no clean one", x.victim(), 1);
        x.startBarrier(1);
        x.writeBarrier(48);
        Check.due("all are clean", x.victim(), 1);
        for (int policy = 0; policy < 3; policy++) {
            x.setPolicy(policy);
            x.readPage(0, 3);
            Check.due("the victim of policy " + policy + " goes", x.frameOwner(x.frameOf(0, 3)), 3);
            x.undo();
            int victim = x.victim();
            int owner = x.frameOwner(victim);
            x.readPage(0, 3);
            Check.due("into its frame", x.frameOf(0, 3), victim);
            Check.due("it is gone", x.frameOf(0, owner), -1);
            x.undo();
        }
    }

    private static void evictions() {
        Document.section(2, "Evicting a page: if it is dirty, it needs a slot (see 1);");
        CheckpointSwap x = Check.system("system 2 1 lru;process int 3;");
        x.readPage(0, 0);
        x.evictPage(0, 0);
        Check.due("a clean one needs none", x.total(2), 0);
        x.writePage(0, 0, 0);
        x.evictPage(0, 0);
        Check.due("a dirty one, though its value is 0", x.total(2), 1);
        x.readPage(0, 0);
        x.evictPage(0, 0);
        Check.due("a clean one with a slot", x.total(2), 1);
        Document.section(2, "then its frame is free, and the page is not resident any more.");
        Check.due("frame", x.frameOwner(0), -1);
        Check.due("page", x.residentPages(0), 0);
        Check.missing("no times", () -> x.frameTime(0, 0));
    }

    private static void writes() {
        Document.section(2, "Writing a page: after the access the value is replaced (also by the same one), the page "
                + "loses its swap slot, and it is dirty.");
        CheckpointSwap x = Check.after("system 1 1 lru;process int 2;", "write 0 0 5;evict 0 0;");
        Check.due("the same value", x.writePage(0, 0, 5), 5);
        Check.due("no slot", x.slotOf(0, 0), -1);
        Check.due("the slot is free", x.slotUse(0), 0);
        Check.due("dirty", x.dirtyPages(0), 1);
        x.crash();
        Check.due("0 over 0", x.writePage(0, 1, 0), 0);
        Check.due("dirty", x.dirtyPages(0), 2);
    }

    private static void recent() {
        Document.section(2, "The recent accesses are the latest 64 accesses, hits and faults, since the system text "
                + "was parsed or the last crash.");
        CheckpointSwap x = Check.system("system 3 48 lru;process int 8;process int 8;");
        Check.outside("none", () -> x.recentAccess(0));
        for (int k = 0; k < 150; k++) {
            int id = k * k % 16;
            x.readPage(id / 8, id % 8);
            for (int index = 0; index < 64 && index <= k; index++) {
                Check.due("access " + k + ", index " + index, x.recentAccess(index), (k - index) * (k - index) % 16);
            }
            int behind = Math.min(k + 1, 64);
            Check.outside("index " + behind, () -> x.recentAccess(behind));
        }
        x.crash();
        Check.outside("none after a crash", () -> x.recentAccess(0));
        x.readPage(1, 1);
        x.readPage(1, 1);
        Check.due("a hit", x.recentAccess(0), 9);
        Check.due("a fault", x.recentAccess(1), 9);
        Check.outside("two", () -> x.recentAccess(2));
        Check.parse(x, "system 1 1 lru;process int 1;");
        Check.outside("none after a text", () -> x.recentAccess(0));
    }
}
