/** Promises 44 to 54: barriers and checkpoints. */
public final class BarrierPromises {
    public static void main(String[] args) {
        progress();
        checkpoints();
        forecasts();
        best();
        lost();
        log();
        Check.end(44, 54);
    }

    private static void progress() {
        CheckpointSwap x = Check.system("system 6 6 lru;process int 3;process int 2;process int 1;");
        Check.script(x, "write 1 0 1;write 0 2 2;write 0 0 3;write 2 0 4;read 0 1;");
        Check.promise(44);
        Check.due("none", x.barrierSet(), 0);
        x.startBarrier(3);
        Check.due("set", x.barrierSet(), 3);
        Check.promise(45);
        Check.due("three", x.pendingPages(), 3);
        Check.promise(46);
        Check.due("first", x.pendingPage(0), 0);
        Check.due("second", x.pendingPage(1), 2);
        Check.due("third", x.pendingPage(2), 8);
        Check.outside("fourth", () -> x.pendingPage(3));
        Check.outside("negative", () -> x.pendingPage(-1));
        x.evictPage(0, 2);
        Check.due("second after an eviction", x.pendingPage(1), 8);
        Check.promise(45);
        Check.due("two after an eviction", x.pendingPages(), 2);
        x.writePage(2, 0, 5);
        Check.due("another process does not matter", x.pendingPages(), 2);
        x.writePage(0, 1, 5);
        Check.due("a page that was clean does not matter", x.pendingPages(), 2);
        x.writePage(0, 0, 6);
        Check.due("a write access writes it", x.pendingPages(), 1);
        x.writeBarrier(1);
        Check.due("none", x.pendingPages(), 0);
        Check.promise(46);
        Check.outside("none", () -> x.pendingPage(0));
        x.commitBarrier();
        Check.promise(44);
        Check.due("committed", x.barrierSet(), 0);
        x.startBarrier(4);
        x.abandonBarrier();
        Check.due("abandoned", x.barrierSet(), 0);
        Check.promise(45);
        Check.due("none in progress", x.pendingPages(), 0);
        x.startBarrier(7);
        Check.due("pages 0 and 1 of 0 and page 0 of 2", x.pendingPages(), 3);
    }

    private static void checkpoints() {
        CheckpointSwap x = Check.system("system 3 6 lru;process int 3;process int 2;");
        Check.promise(47);
        Check.due("none", x.checkpointEpoch(0), -1);
        Check.outside("no process", () -> x.checkpointEpoch(2));
        Check.outside("no process", () -> x.checkpointEpoch(-1));
        Check.promise(48);
        Check.missing("none", () -> x.checkpointSlot(0, 0));
        Check.outside("no page", () -> x.checkpointSlot(0, 3));
        Check.outside("no process", () -> x.checkpointSlot(2, 0));
        Check.promise(49);
        Check.missing("none", () -> x.checkpointValue(0, 0));
        Check.outside("no page", () -> x.checkpointValue(0, -1));
        Check.outside("no process", () -> x.checkpointValue(-1, 0));
        Check.script(x, "barrier 2;abandon;write 0 1 7;write 0 2 8;evict 0 2;barrier 1;");
        Check.promise(47);
        Check.due("not yet", x.checkpointEpoch(0), -1);
        Check.script(x, "flush 1;commit;write 0 1 70;write 0 0 71;");
        Check.due("epoch", x.checkpointEpoch(0), 2);
        Check.due("the other one", x.checkpointEpoch(1), -1);
        Check.promise(48);
        Check.due("empty", x.checkpointSlot(0, 0), -1);
        Check.due("written", x.checkpointSlot(0, 1), 1);
        Check.due("swapped out before", x.checkpointSlot(0, 2), 0);
        Check.missing("the other one", () -> x.checkpointSlot(1, 1));
        Check.outside("the index counts first", () -> x.checkpointSlot(1, 2));
        Check.promise(49);
        Check.due("empty", x.checkpointValue(0, 0), 0);
        Check.due("the value at the start", x.checkpointValue(0, 1), 7);
        Check.due("the value at the start", x.checkpointValue(0, 2), 8);
        Check.missing("the other one", () -> x.checkpointValue(1, 1));
        Check.outside("the index counts first", () -> x.checkpointValue(1, 2));
        Check.script(x, "barrier 3;abandon;crash;barrier 3;commit;");
        Check.promise(47);
        Check.due("epoch of the latest", x.checkpointEpoch(0), 4);
        Check.due("epoch of the latest", x.checkpointEpoch(1), 4);
    }

    private static void forecasts() {
        CheckpointSwap x = Check.system("system 5 8 lru;process int 3;process int 2;");
        Check.script(x, "write 0 0 1;write 0 1 2;write 1 0 3;write 1 1 4;evict 1 1;");
        Check.promise(50);
        Check.due("two", x.wouldWrite(1), 2);
        Check.due("one", x.wouldWrite(2), 1);
        Check.due("three", x.wouldWrite(3), 3);
        Check.argument("empty", () -> x.wouldWrite(0));
        Check.argument("no process", () -> x.wouldWrite(4));
        Check.argument("no process", () -> x.wouldWrite(-1));
        x.startBarrier(3);
        Check.due("also in a barrier", x.wouldWrite(1), 2);
        Check.promise(51);
        Check.state("in a barrier", () -> x.wouldFree(1));
        Check.argument("the argument counts first", () -> x.wouldFree(4));
        Check.script(x, "flush 48;commit;");
        Check.due("nothing", x.wouldFree(3), 0);
        Check.script(x, "write 0 0 5;write 0 1 6;write 1 1 7;");
        Check.due("two of 0", x.wouldFree(1), 2);
        Check.due("one of 1", x.wouldFree(2), 1);
        Check.due("three", x.wouldFree(3), 3);
        Check.argument("empty", () -> x.wouldFree(0));
        Check.argument("no process", () -> x.wouldFree(-8));
        Check.due("as it comes", Check.script(x, "barrier 3;flush 48;commit;"), 3);
        Check.due("three were freed", x.barrierLog(0, 3), 3);
        Check.due("more pages than slots", x.freeSlots(), 4);
        wouldFreeWithoutSlots();
    }

    private static void wouldFreeWithoutSlots() {
        CheckpointSwap x = Check.system("system 3 2 lru;process int 3;");
        Check.script(x, "write 0 0 1;write 0 1 2;barrier 1;flush 48;commit;write 0 0 3;write 0 1 4;write 0 2 5;");
        Check.due("no slot is free", x.freeSlots(), 0);
        Check.due("into new slots", x.wouldFree(1), 2);
        Check.due("nothing was taken", x.freeSlots(), 0);
    }

    private static void best() {
        Check.promise(52);
        CheckpointSwap x = Check.system("system 9 9 lru;process int 3;process int 3;process int 3;");
        Check.due("nothing to lose or write", x.bestBarrier(0), 1);
        Check.argument("negative", () -> x.bestBarrier(-1));
        Check.argument("49", () -> x.bestBarrier(49));
        Check.script(x, "write 0 0 1;write 0 1 2;write 1 0 3;write 1 1 4;write 2 0 5;write 2 1 6;write 2 2 7;");
        Check.due("no set", x.bestBarrier(0), 0);
        Check.due("no set", x.bestBarrier(1), 0);
        Check.due("the least number", x.bestBarrier(2), 1);
        Check.due("three pages of 2", x.bestBarrier(3), 4);
        Check.due("four", x.bestBarrier(4), 3);
        Check.due("five", x.bestBarrier(5), 5);
        Check.due("all", x.bestBarrier(7), 7);
        Check.due("all", x.bestBarrier(48), 7);
        x.evictPage(1, 0);
        Check.due("fewer pages to write", x.bestBarrier(2), 2);
        x.writePage(0, 1, 0);
        Check.due("0 loses one, though two are dirty", x.bestBarrier(4), 6);
        Check.script(x, "write 0 0 0;write 2 2 0;");
        Check.due("nothing is lost by 0", x.bestBarrier(48), 6);
        x.startBarrier(1);
        Check.state("in a barrier", () -> x.bestBarrier(1));
        Check.argument("the argument counts first", () -> x.bestBarrier(49));
    }

    private static void lost() {
        Check.promise(53);
        CheckpointSwap x = Check.system("system 3 8 lru;process int 4;process float 1;");
        Check.due("nothing", x.lostPages(0), 0);
        Check.script(x, "write 0 0 1;write 0 1 0;write 0 3 2;evict 0 3;");
        Check.due("pages that are not 0", x.lostPages(0), 9);
        Check.script(x, "barrier 1;flush 48;");
        Check.due("not committed", x.lostPages(0), 9);
        x.commitBarrier();
        Check.due("committed", x.lostPages(0), 0);
        Check.script(x, "write 0 0 1;write 0 2 7;write 0 3 0;");
        Check.due("the same value is not lost", x.lostPages(0), 12);
        x.writePage(1, 0, 0x80000000);
        Check.due("-0.0 is another value than 0.0", x.lostPages(1), 1);
        Check.outside("no process", () -> x.lostPages(2));
        Check.outside("no process", () -> x.lostPages(-1));
        Check.due("as it comes", x.rollback(0), 12);
    }

    private static void log() {
        Check.promise(54);
        CheckpointSwap x = Check.system("system 3 8 lru;process int 2;process int 1;");
        Check.outside("none", () -> x.barrierLog(0, 0));
        Check.outside("the index counts first", () -> x.barrierLog(0, 4));
        Check.script(x, "write 0 0 1;write 0 1 2;barrier 1;write 0 0 3;flush 1;commit;");
        Check.script(x, "barrier 2;abandon;write 0 0 4;write 0 1 4;barrier 3;flush 2;commit;");
        int[][] due = {{3, 3, 2, 2}, {1, 1, 2, 0}};
        for (int index = 0; index < 2; index++) {
            for (int what = 0; what < 4; what++) {
                Check.due("log " + index + " " + what, x.barrierLog(index, what), due[index][what]);
            }
        }
        Check.outside("two", () -> x.barrierLog(2, 0));
        Check.outside("negative", () -> x.barrierLog(-1, 0));
        Check.argument("what 4", () -> x.barrierLog(1, 4));
        Check.argument("what -1", () -> x.barrierLog(0, -1));
        for (int k = 0; k < 7; k++) {
            Check.script(x, "barrier 1;commit;");
        }
        Check.due("the latest", x.barrierLog(0, 1), 10);
        Check.due("the eighth", x.barrierLog(7, 1), 3);
        Check.due("the eighth", x.barrierLog(7, 0), 3);
        Check.outside("the ninth", () -> x.barrierLog(8, 0));
        Check.script(x, "barrier 2;commit;crash;");
        Check.due("a crash does not matter", x.barrierLog(0, 0), 2);
        Check.due("the eighth", x.barrierLog(7, 1), 4);
        x.undo();
        Check.due("undone", x.barrierLog(0, 1), 10);
        Check.due("undone", x.barrierLog(7, 1), 3);
        Check.due("all commits", x.total(3), 9);
        Check.script(x, "write 0 0 8;write 0 1 8;barrier 1;flush 48;");
        x.abandonBarrier();
        x.startBarrier(1);
        x.undo();
        x.undo();
        x.commitBarrier();
        Check.due("pages to be written, after undo", x.barrierLog(0, 2), 2);
    }
}
