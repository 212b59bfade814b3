/** Promises 44 to 54: barriers and checkpoints. */
final class BarrierEdges {
    private BarrierEdges() {
    }

    static void run() {
        sets();
        pending();
        epochs();
        recordedSlots();
        recordedValues();
        wouldWrite();
        wouldFree();
        best();
        bestRefused();
        lost();
        log();
        logValues();
    }

    private static void sets() {
        Document.promise(44, "Returns the processes of the barrier in progress.", "Returns the set;");
        CheckpointSwap x = Check.system("system 1 1 lru;" + Scenes.SIX);
        for (int set = 1; set < 64; set++) {
            x.startBarrier(set);
            Check.due("set", x.barrierSet(), set);
            x.abandonBarrier();
            Document.promise(44, "0 if none is in progress.");
            Check.due("abandoned", x.barrierSet(), 0);
        }
        x.startBarrier(63);
        x.commitBarrier();
        Check.due("committed", x.barrierSet(), 0);
        x.startBarrier(1);
        x.crash();
        Check.due("crashed", x.barrierSet(), 0);
        Check.due("no processes", new CheckpointSwap().barrierSet(), 0);
    }

    /** As many pages are dirty as there are frames. */
    private static CheckpointSwap sixteenDirty() {
        CheckpointSwap x = Check.system("system 16 48 lru;" + Scenes.SIX);
        for (int k = 15; k >= 0; k--) {
            x.writePage(k % 6, 7 - k % 8, k);
        }
        return x;
    }

    private static void pending() {
        Document.promise(45, "Returns the number of pages still to be written for the barrier in progress.",
                "Returns the number;");
        CheckpointSwap x = sixteenDirty();
        Check.due("none in progress", x.pendingPages(), 0);
        x.startBarrier(63);
        int[] order = new int[16];
        for (int k = 0; k < 16; k++) {
            order[k] = x.pendingPage(k);
        }
        for (int k = 0; k < 16; k++) {
            Document.promise(45, "Returns the number of pages still to be written for the barrier in progress.");
            Check.due("left", x.pendingPages(), 16 - k);
            Document.promise(46, "Returns a page still to be written, in the order in which they will be written.",
                    "Returns 8 * process + page.");
            Check.due("the first", x.pendingPage(0), order[k]);
            Check.due("the last", x.pendingPage(15 - k), order[15]);
            int behind = 16 - k;
            Check.outside("behind the last", () -> x.pendingPage(behind));
            Check.due("ascending", k > 0 && order[k] <= order[k - 1] ? 1 : 0, 0);
            x.writeBarrier(1);
            Check.due("it is written", x.slotOwner(k), order[k]);
        }
        Document.promise(45, "0 if none is in progress.");
        Check.due("all written", x.pendingPages(), 0);
        x.commitBarrier();
        Check.due("committed", x.pendingPages(), 0);
        CheckpointSwap y = Scenes.busy();
        Check.due("two", y.pendingPages(), 2);
        y.abandonBarrier();
        Check.due("abandoned", y.pendingPages(), 0);
        Check.due("no processes", new CheckpointSwap().pendingPages(), 0);
        Document.promise(46, "Throws `IndexOutOfBoundsException` if there is no such index");
        Check.due("the last of two", Scenes.busy().pendingPage(1), 16);
        for (int index : new int[] {2, 3, 48, -1, Integer.MIN_VALUE, Integer.MAX_VALUE}) {
            Refusal.outside("index " + index, Scenes::busy, z -> z.pendingPage(index));
        }
        Refusal.outside("all written", Scenes::written, z -> z.pendingPage(0));
        Refusal.outside("none in progress", Scenes::quiet, z -> z.pendingPage(0));
        Refusal.outside("no processes", CheckpointSwap::new, z -> z.pendingPage(0));
    }

    private static void epochs() {
        Document.promise(47, "Returns the epoch of the checkpoint of a process.", "Returns the epoch;");
        CheckpointSwap x = Check.system("system 1 1 lru;" + Scenes.SIX);
        for (int k = 1; k <= 60; k++) {
            x.startBarrier(1 << k % 6);
            x.commitBarrier();
            Check.due("the latest", x.checkpointEpoch(k % 6), k);
            Check.due("the one before", k < 6 ? 0 : x.checkpointEpoch((k + 1) % 6), k < 6 ? 0 : k - 5);
        }
        x.startBarrier(63);
        Check.due("in progress", x.checkpointEpoch(0), 60);
        x.commitBarrier();
        Check.due("committed", x.checkpointEpoch(0) + x.checkpointEpoch(5), 122);
        Document.promise(47, "NONE if it has no checkpoint.");
        Check.due("never in a barrier", Scenes.quiet().checkpointEpoch(2), -1);
        Check.due("in progress", Scenes.busy().checkpointEpoch(2), -1);
        CheckpointSwap abandoned = Scenes.busy();
        abandoned.abandonBarrier();
        Check.due("abandoned", abandoned.checkpointEpoch(2), -1);
        Document.promise(47, "Throws `IndexOutOfBoundsException` if there is no such process");
        Refusal.noProcess((y, p) -> y.checkpointEpoch(p));
    }

    private static void recordedSlots() {
        Document.promise(48, "Returns the slot of a page in the checkpoint of its process.",
                "Returns number of the slot;");
        CheckpointSwap x = Check.system("system 1 48 lru;" + Scenes.SIX);
        for (int k = 0; k < 48; k++) {
            x.writePage(k / 8, k % 8, k);
            x.evictPage(k / 8, k % 8);
        }
        x.startBarrier(63);
        x.commitBarrier();
        x.writePage(0, 0, 9);
        Check.due("the first", x.checkpointSlot(0, 0), 0);
        Check.due("the last", x.checkpointSlot(5, 7), 47);
        Document.promise(48, "NONE if its record is empty.");
        CheckpointSwap empty = Check.after("system 1 1 lru;process int 8;", "read 0 0;barrier 1;commit;");
        Check.due("resident", empty.checkpointSlot(0, 0), -1);
        Check.due("never accessed", empty.checkpointSlot(0, 7), -1);
        Document.promise(48, "Throws `IndexOutOfBoundsException` if there is no such process or page");
        Refusal.noPage((y, p, v) -> y.checkpointSlot(p, v));
        Document.promise(48, "NoSuchElementException if the process has no checkpoint");
        Refusal.missing("never in a barrier", Scenes::quiet, y -> y.checkpointSlot(2, 0));
        Refusal.missing("in progress", Scenes::busy, y -> y.checkpointSlot(2, 0));
    }

    private static void recordedValues() {
        Document.promise(49, "Returns the value of a page in the checkpoint of its process.", "Returns the value.");
        CheckpointSwap x = Check.system("system 4 9 lru;process int 8;process float 1;");
        x.writePage(0, 0, Integer.MIN_VALUE);
        x.writePage(0, 7, Integer.MAX_VALUE);
        x.writePage(1, 0, -1);
        Check.script(x, "barrier 3;flush 48;commit;write 0 0 1;write 0 7 1;write 1 0 1;evict 0 0;");
        Check.due("least", x.checkpointValue(0, 0), Integer.MIN_VALUE);
        Check.due("greatest", x.checkpointValue(0, 7), Integer.MAX_VALUE);
        Check.due("NaN", x.checkpointValue(1, 0), 0x7fc00000);
        Check.due("an empty record", x.checkpointValue(0, 1), 0);
        x.writePage(0, 1, 5);
        Check.due("an empty record", x.checkpointValue(0, 1), 0);
        Document.promise(49, "Throws `IndexOutOfBoundsException` if there is no such process or page");
        Refusal.noPage((y, p, v) -> y.checkpointValue(p, v));
        Document.promise(49, "NoSuchElementException if the process has no checkpoint");
        Refusal.missing("never in a barrier", Scenes::quiet, y -> y.checkpointValue(2, 0));
        Refusal.missing("in progress", Scenes::busy, y -> y.checkpointValue(2, 0));
    }

    private static void wouldWrite() {
        Document.promise(50, "Returns how many pages would still have to be written if a barrier for a set of "
                + "processes were started now and none were in progress.", "- `set`: a set of processes, not empty",
                "Returns the number.");
        CheckpointSwap x = sixteenDirty();
        for (int set = 1; set < 64; set++) {
            int forecast = x.wouldWrite(set);
            Check.due("set " + set, x.startBarrier(set), forecast);
            Check.due("in progress too", x.wouldWrite(set), forecast);
            x.abandonBarrier();
        }
        Check.due("all", x.wouldWrite(63), 16);
        x.startBarrier(1);
        x.writeBarrier(1);
        Check.due("one was written", x.wouldWrite(63), 15);
        x.writePage(0, x.pendingPage(0), 5);
        Check.due("written and dirty again", x.wouldWrite(63), 15);
        x.crash();
        Check.due("none", x.wouldWrite(63), 0);
        Document.promise(50, "Throws `IllegalArgumentException` if the set is empty or contains something that is no "
                + "process");
        Refusal.noSet(Scenes::quiet, (y, set) -> y.wouldWrite(set));
        Refusal.noSet(Scenes::busy, (y, set) -> y.wouldWrite(set));
        Refusal.argument("no processes", Scenes::unparsed, y -> y.wouldWrite(1));
    }

    private static void wouldFree() {
        Document.promise(51, "Returns how many slots would become free by the commit, if a barrier for a set of "
                + "processes were started now, all its pages written (each into a slot that is free now, or into a "
                + "new slot if there are not enough), and the barrier committed.",
                "- `set`: a set of processes, not empty", "Returns the number.");
        for (int set = 1; set < 8; set++) {
            CheckpointSwap x = Scenes.quiet();
            int forecast = x.wouldFree(set);
            Check.due("set " + set, forecast, set & 1);
            x.startBarrier(set);
            x.writeBarrier(48);
            Check.due("as it comes", x.commitBarrier(), forecast);
        }
        String script = "write 0 0 1;write 0 1 2;write 0 2 3;barrier 1;flush 48;commit;write 0 0 4;write 0 1 5;";
        for (int slots = 3; slots < 7; slots++) {
            CheckpointSwap x = Check.after("system 3 " + slots + " lru;process int 3;process int 1;", script);
            Check.due(slots - 3 + " slots are free", x.wouldFree(1), 2);
            Check.due("the other process", x.wouldFree(2), 0);
            Check.due("both", x.wouldFree(3), 2);
            Check.due("nothing is taken", x.freeSlots(), slots - 3);
        }
        CheckpointSwap all = Check.after("system 3 3 lru;process int 3;", script + "write 0 2 6;");
        Check.due("all, with none free", all.wouldFree(1), 3);
        all.rollback(0);
        Check.due("swap slots of the checkpoint", all.wouldFree(1), 0);
        Check.due("no checkpoint", Scenes.full().wouldFree(3), 0);
        CheckpointSwap last = Check.system("system 3 9 lru;" + Scenes.SIX);
        Check.script(last, "write 5 7 1;write 0 0 1;barrier 63;flush 48;commit;write 5 7 2;");
        Check.due("the last page of the last process", last.wouldFree(32), 1);
        Check.due("all but the last process", last.wouldFree(31), 0);
        last.writePage(0, 0, 2);
        Check.due("all processes", last.wouldFree(63), 2);
        for (int k = 0; k < 48; k++) {
            CheckpointSwap each = Check.system("system 3 9 lru;" + Scenes.SIX);
            each.writePage(k / 8, k % 8, 1);
            Check.script(each, "barrier 63;flush 48;commit;");
            each.writePage(k / 8, k % 8, 2);
            Check.due("page " + k, each.wouldFree(1 << k / 8), 1);
            Check.due("all processes without that of page " + k, each.wouldFree(63 - (1 << k / 8)), 0);
        }
        Document.promise(51, "Throws `IllegalArgumentException` if the set is empty or contains something that is no "
                + "process");
        Refusal.noSet(Scenes::quiet, (y, set) -> y.wouldFree(set));
        Refusal.noSet(Scenes::busy, (y, set) -> y.wouldFree(set));
        Refusal.argument("no processes", Scenes::unparsed, y -> y.wouldFree(1));
        Document.promise(51, "IllegalStateException if a barrier is in progress");
        Refusal.state("busy", Scenes::busy, y -> y.wouldFree(2));
        Refusal.state("all written", Scenes::written, y -> y.wouldFree(1));
    }

    private static void best() {
        Document.promise(52, "Finds the set of processes for which a barrier should be started now: of all sets for "
                + "which wouldWrite() is at most a number of slots, the one with which the fewest pages would be lost "
                + "if a crash came right after its commit (counted over all processes, see lostPages());",
                "- `slots`: 0 to 48", "Returns the set;");
        CheckpointSwap x = Check.after("system 9 9 lru;process int 3;process int 3;process int 3;",
                "write 0 0 1;write 1 0 1;write 1 1 1;write 2 0 1;write 2 1 1;write 2 2 1;");
        int[] due = {0, 1, 2, 3, 5, 6, 7, 7};
        for (int slots = 0; slots < due.length; slots++) {
            Check.due("at most " + slots, x.bestBarrier(slots), due[slots]);
        }
        Check.due("at most 48", x.bestBarrier(48), 7);
        Document.promise(52, "of several the one with the lowest wouldWrite();");
        CheckpointSwap y = Check.after("system 9 9 lru;process int 2;process int 2;",
                "write 0 0 1;write 0 1 0;write 1 1 1;");
        Check.due("both lose one; 1 writes fewer", y.bestBarrier(2), 2);
        y.writePage(0, 0, 0);
        Check.due("0 loses nothing", y.bestBarrier(48), 2);
        y.writePage(1, 1, 0);
        Check.due("nobody loses; 1 writes fewer", y.bestBarrier(48), 2);
        Document.promise(52, "of several the least number.");
        Check.due("nothing to lose, nothing to write", Check.system("system 1 1 lru;" + Scenes.SIX).bestBarrier(0), 1);
        Check.due("nothing to lose, nothing to write", Check.system("system 1 1 lru;" + Scenes.SIX).bestBarrier(48), 1);
        CheckpointSwap z = Check.after("system 9 9 lru;process int 2;process int 2;process int 2;",
                "write 1 0 1;write 2 0 1;");
        Check.due("without 0", z.bestBarrier(48), 6);
        Check.due("1 before 2", z.bestBarrier(1), 2);
        Check.due("none to write", z.bestBarrier(0), 1);
        Check.script(z, "evict 1 0;evict 2 0;");
        Check.due("lost without a write", z.bestBarrier(0), 6);
        Document.promise(52, "0 if there is none.");
        Check.due("no processes", new CheckpointSwap().bestBarrier(48), 0);
        CheckpointSwap one = Check.after("system 1 1 lru;process int 1;", "write 0 0 0;");
        Check.due("no set writes nothing", one.bestBarrier(0), 0);
        Check.due("one slot", one.bestBarrier(1), 1);
        CheckpointSwap sixteen = sixteenDirty();
        Check.due("sixteen slots", sixteen.bestBarrier(16), 63);
        Check.due("fifteen slots", sixteen.bestBarrier(15) < 63 ? 1 : 0, 1);
    }

    private static void bestRefused() {
        Document.promise(52, "Throws `IllegalArgumentException` if an argument is out of its range");
        Refusal.notBetween(0, 48, Scenes::quiet, (y, k) -> y.bestBarrier(k));
        Refusal.notBetween(0, 48, Scenes::busy, (y, k) -> y.bestBarrier(k));
        Refusal.notBetween(0, 48, Scenes::unparsed, (y, k) -> y.bestBarrier(k));
        Document.promise(52, "IllegalStateException if a barrier is in progress");
        Refusal.state("busy", Scenes::busy, y -> y.bestBarrier(0));
        Refusal.state("all written", Scenes::written, y -> y.bestBarrier(48));
        CheckpointSwap x = Check.after("system 2 2 lru;process int 1;process int 1;", "write 1 0 5;barrier 1;");
        Check.state("nothing to write", () -> x.bestBarrier(48));
        x.commitBarrier();
        Check.due("committed", x.bestBarrier(48), 2);
        x.startBarrier(2);
        Check.state("another one", () -> x.bestBarrier(48));
        x.abandonBarrier();
        Check.due("abandoned", x.bestBarrier(48), 2);
        x.startBarrier(3);
        x.crash();
        Check.due("crashed", x.bestBarrier(48), 1);
    }

    private static void lost() {
        Document.promise(53, "Returns the pages of a process whose values would become different by a crash now.",
                "Returns a set of pages.");
        CheckpointSwap x = Check.system("system 8 48 lru;process int 8;process float 1;");
        Check.due("none", x.lostPages(0), 0);
        for (int page = 0; page < 8; page++) {
            x.writePage(0, page, Integer.MIN_VALUE);
            Check.due("up to " + page, x.lostPages(0), (2 << page) - 1);
        }
        x.startBarrier(1);
        x.writeBarrier(48);
        Check.due("not committed", x.lostPages(0), 255);
        x.commitBarrier();
        Check.due("committed", x.lostPages(0), 0);
        x.writePage(0, 0, 0);
        x.writePage(0, 1, Integer.MIN_VALUE);
        x.writePage(0, 7, Integer.MAX_VALUE);
        Check.due("0 and 7; 1 has the same value", x.lostPages(0), 129);
        x.evictPage(0, 7);
        Check.due("in a slot too", x.lostPages(0), 129);
        x.writePage(1, 0, Integer.MIN_VALUE);
        Check.due("-0.0", x.lostPages(1), 1);
        x.crash();
        Check.due("crashed", x.lostPages(0) + x.lostPages(1), 0);
        for (Refusal.Scene scene : Scenes.ALL) {
            CheckpointSwap before = scene.make();
            CheckpointSwap after = scene.make();
            after.crash();
            for (int process = 0; process < before.processCount(); process++) {
                int different = 0;
                for (int page = 0; page < before.pageCount(process); page++) {
                    different |= before.peek(process, page) == after.peek(process, page) ? 0 : 1 << page;
                }
                Check.due("as it comes", before.lostPages(process), different);
            }
        }
        Document.promise(53, "Throws `IndexOutOfBoundsException` if there is no such process");
        Refusal.noProcess((y, p) -> y.lostPages(p));
    }

    private static void log() {
        Document.promise(54, "Returns a value of one of the latest 8 barriers that were committed since the system "
                + "text was parsed.", "Returns the value.");
        CheckpointSwap x = Check.system("system 1 1 lru;" + Scenes.SIX);
        for (int k = 0; k < 40; k++) {
            int known = Math.min(k, 8);
            for (int index = 0; index < known; index++) {
                Check.due("set " + index + " of " + k, x.barrierLog(index, 0), k - index);
                Check.due("epoch " + index + " of " + k, x.barrierLog(index, 1), 2 * (k - index));
            }
            Check.outside("index " + known + " of " + k, () -> x.barrierLog(known, 0));
            x.startBarrier(63);
            x.abandonBarrier();
            x.startBarrier(k + 1);
            x.commitBarrier();
        }
        x.crash();
        Check.due("after a crash", x.barrierLog(7, 0), 33);
        x.undo();
        x.undo();
        Check.due("undone", x.barrierLog(0, 0), 39);
        Check.due("undone", x.barrierLog(7, 0), 32);
        Check.parse(x, "system 1 1 lru;" + Scenes.SIX);
        Check.outside("parsed", () -> x.barrierLog(0, 0));
        Document.promise(54, "Throws `IndexOutOfBoundsException` if there is no such barrier");
        Check.due("one in the scene", Scenes.quiet().barrierLog(0, 0), 3);
        for (int index : new int[] {1, 7, 8, -1, Integer.MIN_VALUE, Integer.MAX_VALUE}) {
            Refusal.outside("index " + index, Scenes::quiet, y -> y.barrierLog(index, 0));
            Refusal.outside("index " + index + ", what 4", Scenes::busy, y -> y.barrierLog(index, 4));
        }
        Refusal.outside("none", Scenes::unparsed, y -> y.barrierLog(0, 0));
        Refusal.outside("none was committed", Scenes::fullInBarrier, y -> y.barrierLog(0, 0));
        Document.promise(54, "IllegalArgumentException if an argument is out of its range");
        Refusal.notBetween(0, 3, Scenes::quiet, (y, what) -> y.barrierLog(0, what));
    }

    private static void logValues() {
        CheckpointSwap x = Check.after("system 4 48 lru;process int 4;process int 1;",
                "write 0 0 1;write 0 1 1;write 1 0 1;evict 0 1;barrier 3;write 0 0 2;evict 1 0;commit;write 0 1 3;"
                + "write 0 0 4;write 1 0 5;barrier 3;flush 1;write 0 1 9;flush 9;commit;barrier 1;flush 1;commit;");
        Document.promise(54, "- `what`: 0: its set of processes;");
        Check.due("sets", x.barrierLog(0, 0) * 100 + x.barrierLog(1, 0) * 10 + x.barrierLog(2, 0), 133);
        Document.promise(54, "1: its epoch;");
        Check.due("epochs", x.barrierLog(0, 1) * 100 + x.barrierLog(1, 1) * 10 + x.barrierLog(2, 1), 321);
        Document.promise(54, "2: the number of pages that were still to be written when it was started;");
        Check.due("the first: page 0 of 0 and page 0 of 1", x.barrierLog(2, 2), 2);
        Check.due("the second: three", x.barrierLog(1, 2), 3);
        Check.due("the third: page 1 of 0, dirty again", x.barrierLog(0, 2), 1);
        Document.promise(54, "3: how many slots became free by its commit");
        Check.due("the first", x.barrierLog(2, 3), 0);
        Check.due("the second", x.barrierLog(1, 3), 3);
        Check.due("the third", x.barrierLog(0, 3), 1);
    }
}
