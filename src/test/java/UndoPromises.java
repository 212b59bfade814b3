/** Promises 64 and 65, and what sections 6 and 7 say of changes. */
public final class UndoPromises {
    public static void main(String[] args) {
        eachChange();
        depth();
        notPartOfTheState();
        noChanges();
        Check.end(64, 65);
    }

    private static void eachChange() {
        Check.promise(64);
        CheckpointSwap x = Check.system("system 2 5 lru;process int 3;process float 2;");
        Check.state("none", () -> x.undo());
        Check.script(x, "write 0 0 1;write 1 1 2;barrier 3;flush 9;commit;write 0 0 2;write 0 1 3;");
        String[] states = new String[11];
        states[0] = Snapshot.ofState(x);
        x.writePage(0, 2, 3);
        states[1] = Snapshot.ofState(x);
        x.startBarrier(3);
        states[2] = Snapshot.ofState(x);
        x.writeBarrier(1);
        states[3] = Snapshot.ofState(x);
        x.evictPage(0, 2);
        states[4] = Snapshot.ofState(x);
        x.commitBarrier();
        states[5] = Snapshot.ofState(x);
        x.readPage(1, 0);
        x.rollback(0);
        states[6] = Snapshot.ofState(x);
        x.setPolicy(2);
        states[7] = Snapshot.ofState(x);
        Check.script(x, "write 1 0 1;barrier 2;");
        states[8] = Snapshot.ofState(x);
        x.abandonBarrier();
        states[9] = Snapshot.ofState(x);
        for (int k = 8; k >= 6; k--) {
            Check.due("left", x.undo(), k + 1);
            Check.dueText("state " + k, Snapshot.ofState(x), states[k]);
        }
        Check.due("left", x.undo(), 6);
        Check.due("left", x.undo(), 5);
        for (int k = 5; k >= 1; k--) {
            Check.dueText("state " + k, Snapshot.ofState(x), states[k]);
            Check.due("left", x.undo(), k - 1);
        }
        Check.dueText("state 0", Snapshot.ofState(x), states[0]);
        Check.state("the eleventh", () -> x.undo());
        x.crash();
        x.undo();
        Check.dueText("state 0 after a crash", Snapshot.ofState(x), states[0]);
    }

    private static void depth() {
        Check.promise(65);
        CheckpointSwap x = Check.system("system 2 5 lru;process int 3;");
        Check.due("none", x.undoDepth(), 0);
        for (int k = 1; k <= 13; k++) {
            x.writePage(0, 0, k);
            Check.due("depth", x.undoDepth(), Math.min(k, 10));
        }
        for (int k = 1; k <= 4; k++) {
            Check.due("undo", x.undo(), 10 - k);
            Check.due("depth", x.undoDepth(), 10 - k);
            Check.due("value", x.peek(0, 0), 13 - k);
        }
        x.writePage(0, 0, 100);
        Check.due("a new change", x.undoDepth(), 7);
        x.undo();
        Check.due("value", x.peek(0, 0), 9);
        for (int k = 5; k >= 0; k--) {
            Check.due("undo", x.undo(), k);
            Check.due("value", x.peek(0, 0), 3 + k);
        }
        Check.state("no more", () -> x.undo());
        Check.due("value", x.peek(0, 0), 3);
        x.readPage(0, 0);
        x.readPage(0, 0);
        Check.due("changes though nothing becomes different", x.undoDepth(), 2);
        Check.parse(x, "wrong");
        Check.due("a wrong text does not matter", x.undoDepth(), 2);
        Check.parse(x, "system 2 5 lru;process int 3;");
        Check.due("a correct text makes them not undoable", x.undoDepth(), 0);
        Check.state("none", () -> x.undo());
        CheckpointSwap y = new CheckpointSwap();
        y.crash();
        y.setPolicy(1);
        y.runScript();
        Check.due("changes before the first text", y.undoDepth(), 3);
        y.undo();
        y.undo();
        y.undo();
        Check.due("no crash", y.total(4), 0);
    }

    private static void notPartOfTheState() {
        Check.promise(64);
        CheckpointSwap x = Check.system("system 2 5 lru;process int 3;");
        x.writePage(0, 0, 1);
        int length = x.writeReport();
        Check.parse(x, "system 0");
        x.writePage(0, 0, 2);
        Check.put(x, "twelve signs");
        x.undo();
        x.undo();
        Check.due("the buffer", x.truncateText(12), 12);
        Check.due("the report", x.reportByte(length - 1), 10);
        Check.due("the report", x.reportByte(length - 6), '3');
        Check.due("the error", x.errorCode(), 2);
        Check.due("the error", x.errorPosition(), 7);
    }

    private static void noChanges() {
        Check.promise(65);
        CheckpointSwap x = Check.system("system 2 5 lru;process int 3;");
        x.writePage(0, 0, 1);
        Check.outside("readPage", () -> x.readPage(0, 3));
        Check.argument("setPolicy", () -> x.setPolicy(5));
        Check.argument("startBarrier", () -> x.startBarrier(0));
        Check.state("writeBarrier", () -> x.writeBarrier(1));
        Check.state("commitBarrier", () -> x.commitBarrier());
        Check.state("abandonBarrier", () -> x.abandonBarrier());
        Check.missing("rollback", () -> x.rollback(0));
        Check.unsupported("evictPage", () -> x.evictPage(0, 1));
        Check.due("a wrong script", Check.script(x, "read 0 0;x"), -10);
        x.wouldFree(1);
        x.bestBarrier(3);
        x.leastFrames(3);
        Check.due("one change", x.undoDepth(), 1);
        Check.due("one undo", x.undo(), 0);
        Check.due("value", x.peek(0, 0), 0);
    }
}
