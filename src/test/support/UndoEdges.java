import java.util.ArrayList;
import java.util.List;

/** Sections 6 and 7 of the description, and promises 64 and 65: changes, undo, exceptions. */
final class UndoEdges {
    private UndoEdges() {
    }

    static void run() {
        changes();
        large();
        ten();
        ring();
        parsed();
        notInTheState();
        questions();
        orderOfExceptions();
        firstSystem();
        undo();
        depth();
    }

    private static void changes() {
        Document.section(6, "A change is a successful call of readPage, writePage, setPolicy, startBarrier, "
                + "writeBarrier, commitBarrier, abandonBarrier, crash, rollback, evictPage or runScript, even if "
                + "nothing becomes different.", "undo() restores the state before the latest change that was not "
                + "undone;");
        change("readPage", Scenes::quiet, x -> x.readPage(0, 1));
        change("writePage", Scenes::quiet, x -> x.writePage(0, 1, 1));
        change("setPolicy", Scenes::quiet, x -> x.setPolicy(0));
        change("setPolicy to the same", Scenes::quiet, x -> x.setPolicy(1));
        change("startBarrier", Scenes::quiet, x -> x.startBarrier(7));
        change("writeBarrier", Scenes::busy, x -> x.writeBarrier(1));
        change("writeBarrier with no page", Scenes::written, x -> x.writeBarrier(1));
        change("writeBarrier with no slot", Scenes::fullInBarrier, x -> x.writeBarrier(48));
        change("commitBarrier", Scenes::written, x -> x.commitBarrier());
        change("abandonBarrier", Scenes::busy, x -> x.abandonBarrier());
        CheckpointSwap again = Scenes.busy();
        again.abandonBarrier();
        again.undo();
        again.writeBarrier(48);
        again.commitBarrier();
        Check.due("the barrier has back how many pages it had to write", again.barrierLog(0, 2), 3);
        change("crash", Scenes::busy, x -> x.crash());
        change("crash without processes", CheckpointSwap::new, x -> x.crash());
        change("rollback", Scenes::quiet, x -> x.rollback(0));
        change("rollback of what is restored", UndoEdges::restored, x -> x.rollback(0));
        change("evictPage", Scenes::quiet, x -> x.evictPage(0, 0));
        change("evictPage of a clean page", Scenes::quiet, x -> x.evictPage(1, 1));
        change("runScript", Scenes::quiet, x -> Check.script(x, "crash;write 2 0 4;"));
        change("runScript without operations", Scenes::quiet, x -> Check.script(x, ""));
    }

    private static CheckpointSwap restored() {
        CheckpointSwap x = Scenes.quiet();
        x.rollback(0);
        return x;
    }

    /** The change and each before it are undone one after the other. */
    private static void change(String what, Refusal.Scene scene, Refusal.On call) {
        CheckpointSwap x = scene.make();
        CheckpointSwap y = scene.make();
        int depth = x.undoDepth();
        call.call(x);
        Check.due(what + " can be undone", x.undoDepth(), Math.min(depth + 1, 10));
        Check.due(what, x.undo(), Math.min(depth, 9));
        Check.dueText("the state before " + what, Snapshot.ofState(x), Snapshot.ofState(y));
        for (int k = Math.min(depth, 9); k > 0; k--) {
            x.undo();
            y.undo();
            Check.dueText("a state before " + what, Snapshot.ofState(x), Snapshot.ofState(y));
        }
    }

    /** Every page, frame, slot, checkpoint and recent access of the greatest system comes back. */
    private static void large() {
        Document.section(6, "undo() restores the state before the latest change that was not undone;");
        change("crash", Scenes::large, x -> x.crash());
        change("writeBarrier", Scenes::large, x -> x.writeBarrier(48));
        change("commitBarrier", UndoEdges::largeWritten, x -> x.commitBarrier());
        change("hits in all frames", UndoEdges::largeWritten, x -> Check.script(x, reads(32, 16)));
        change("faults in all frames", UndoEdges::largeWritten, x -> Check.script(x, reads(0, 16)));
        change("rollback", UndoEdges::largeCommitted, x -> x.rollback(5));
        CheckpointSwap x = UndoEdges.largeCommitted();
        String before = Snapshot.ofState(x);
        x.crash();
        Check.script(x, reads(0, 44));
        Check.script(x, reads(2, 44));
        String crashed = Snapshot.ofState(x);
        Check.script(x, reads(4, 44));
        x.setPolicy(1);
        x.undo();
        x.undo();
        Check.dueText("after the crash", Snapshot.ofState(x), crashed);
        x.undo();
        x.undo();
        x.undo();
        Check.dueText("before the crash", Snapshot.ofState(x), before);
    }

    private static CheckpointSwap largeWritten() {
        CheckpointSwap x = Scenes.large();
        x.writeBarrier(48);
        return x;
    }

    private static CheckpointSwap largeCommitted() {
        CheckpointSwap x = largeWritten();
        x.commitBarrier();
        return x;
    }

    private static String reads(int first, int count) {
        StringBuilder text = new StringBuilder();
        for (int k = first; k < first + count; k++) {
            text.append("read ").append(k / 8).append(' ').append(k % 8).append(';');
        }
        return text.toString();
    }

    private static void ten() {
        Document.section(6, "the latest 10 changes can be undone.");
        for (int changes = 9; changes <= 24; changes++) {
            CheckpointSwap x = Check.system("system 2 5 lru;process int 3;");
            for (int k = 1; k <= changes; k++) {
                x.writePage(0, 0, k);
            }
            int undoable = Math.min(changes, 10);
            for (int k = 1; k <= undoable; k++) {
                Check.due("undo", x.undo(), undoable - k);
                Check.due("value", x.peek(0, 0), changes - k);
            }
            Check.state("the one before the tenth of " + changes, () -> x.undo());
            Check.due("nothing changes", x.peek(0, 0), changes - undoable);
        }
    }

    /** Changes and undos mixed, beside a list of all states. */
    private static void ring() {
        Document.section(6, "undo() restores the state before the latest change that was not undone;",
                "the latest 10 changes");
        CheckpointSwap x = Check.system("system 2 5 lru;process int 3;");
        List<Integer> before = new ArrayList<>();
        for (int k = 1; k <= 300; k++) {
            boolean back = k % 7 == 3 || k % 11 < 4 || k % 50 > 35;
            if (back && !before.isEmpty()) {
                x.undo();
                Check.due("undone in step " + k, x.peek(0, 0), before.remove(before.size() - 1));
            } else if (back) {
                Check.state("none in step " + k, () -> x.undo());
            } else {
                before.add(x.peek(0, 0));
                x.writePage(0, 0, k);
            }
            if (before.size() > 10) {
                before.remove(0);
            }
            Check.due("depth in step " + k, x.undoDepth(), before.size());
        }
    }

    private static void parsed() {
        Document.section(6, "parseSystem(), if it is successful, makes all earlier changes not undoable.");
        CheckpointSwap x = Scenes.quiet();
        Check.due("ten", x.undoDepth(), 10);
        Check.parse(x, "wrong");
        Check.due("not successful", x.undoDepth(), 10);
        Check.parse(x, "system 1 1 lru;process int 1;");
        Check.due("successful", x.undoDepth(), 0);
        Check.state("none", () -> x.undo());
        x.writePage(0, 0, 4);
        Check.due("only the later one", x.undo(), 0);
        Check.due("value", x.peek(0, 0), 0);
        Check.state("none", () -> x.undo());
        for (int earlier = 0; earlier <= 13; earlier++) {
            afterEarlierChanges(earlier);
        }
        CheckpointSwap y = Scenes.unparsed();
        Check.due("one process", y.parseSystem(), 1);
        Check.state("changes before the first text", () -> y.undo());
    }

    private static void afterEarlierChanges(int earlier) {
        CheckpointSwap x = new CheckpointSwap();
        for (int k = 0; k < earlier; k++) {
            x.crash();
        }
        Check.parse(x, "system 1 1 lru;process int 1;");
        for (int k = 1; k <= 12; k++) {
            x.writePage(0, 0, k);
            Check.due("changes after " + earlier + " earlier ones", x.undoDepth(), Math.min(k, 10));
        }
        for (int k = 9; k >= 0; k--) {
            Check.due("undo after " + earlier + " earlier ones", x.undo(), k);
            Check.due("value after " + earlier + " earlier ones", x.peek(0, 0), k + 2);
        }
        Check.state("no more after " + earlier + " earlier ones", () -> x.undo());
    }

    private static void notInTheState() {
        Document.section(6, "The text buffer, the report and the latest error are not part of the state.");
        CheckpointSwap x = Check.system("system 2 5 lru;process int 3;");
        Check.parse(x, "system 17");
        x.writeReport();
        x.writePage(0, 0, 1);
        Check.parse(x, "    #");
        int length = x.writeReport();
        Check.put(x, "crash;crash;");
        x.undo();
        Check.due("the error after the change", x.errorCode(), 1);
        Check.due("the error after the change", x.errorPosition(), 4);
        Check.due("the report after the change", x.reportByte(length - 6), '3');
        Check.due("the buffer after the change", Snapshot.bufferLength(x), 12);
        Check.due("the buffer after the change", x.runScript(), 2);
        x.undo();
        Check.due("the buffer stays empty", Snapshot.bufferLength(x), 0);
    }

    private static void questions() {
        Document.section(6, "All other methods change nothing but the text buffer (appendText, truncateText, "
                + "parseSystem, runScript) and the report (writeReport).");
        for (Refusal.Scene scene : Scenes.ALL) {
            CheckpointSwap x = scene.make();
            CheckpointSwap y = scene.make();
            String first = Snapshot.of(x);
            Check.dueText("all questions twice", Snapshot.of(x), first);
            for (int set = -1; set < 9; set++) {
                ask(x, set);
            }
            Refusal.same("forecasts", x, y);
        }
        CheckpointSwap x = Scenes.busy();
        CheckpointSwap y = Scenes.busy();
        x.writePage(0, 0, 77);
        y.writePage(0, 0, 77);
        Check.put(x, "a text that is longer");
        x.truncateText(3);
        x.writeReport();
        Check.dueText("texts and reports", Snapshot.ofState(x), Snapshot.ofState(y));
        Check.due("are no changes", x.undoDepth(), y.undoDepth());
    }

    private static void ask(CheckpointSwap x, int k) {
        List<Check.Call> calls = List.of(() -> x.wouldWrite(k), () -> x.wouldFree(k), () -> x.bestBarrier(k),
                () -> x.faultsWith(k, 0), () -> x.faultsWith(k, 1), () -> x.faultsWith(k, 2), () -> x.leastFrames(k),
                () -> x.workingSet(k), () -> x.twins(k), () -> x.freeSlot(k), () -> x.barrierLog(k, k),
                () -> x.reportByte(k));
        for (Check.Call each : calls) {
            try {
                each.run();
            } catch (RuntimeException e) {
                continue;
            }
        }
    }

    private static void orderOfExceptions() {
        Document.section(7, "The exceptions of a call are checked in the order of its throws clause.");
        Check.outside("readPage without a page and a slot", () -> Scenes.full().readPage(0, 5));
        Check.outside("writePage without a page and a slot", () -> Scenes.full().writePage(2, 0, 1));
        Check.argument("startBarrier of nothing in a barrier", () -> Scenes.busy().startBarrier(0));
        Check.argument("writeBarrier of 0 without a barrier", () -> Scenes.quiet().writeBarrier(0));
        Check.outside("rollback of no process", () -> Scenes.busy().rollback(3));
        Check.missing("rollback without a checkpoint in a barrier", () -> Scenes.busy().rollback(2));
        Check.outside("evictPage of no page", () -> Scenes.full().evictPage(0, 5));
        Check.unsupported("evictPage of a page not resident without a slot", () -> Scenes.full().evictPage(0, 0));
        Check.outside("peekFloat of no page of an int process", () -> (long) Scenes.quiet().peekFloat(0, 3));
        Check.outside("frameTime of no frame, what 2", () -> Scenes.quiet().frameTime(4, 2));
        Check.missing("frameTime of a free frame, what 2", () -> Check.system("system 1 1 lru;process int 1;")
                .frameTime(0, 2));
        Check.outside("checkpointSlot of no page without a checkpoint", () -> Scenes.quiet().checkpointSlot(2, 1));
        Check.outside("checkpointValue of no page without a checkpoint", () -> Scenes.quiet().checkpointValue(2, 1));
        Check.argument("wouldFree of nothing in a barrier", () -> Scenes.busy().wouldFree(0));
        Check.argument("bestBarrier of 49 in a barrier", () -> Scenes.busy().bestBarrier(49));
        Check.outside("barrierLog of no barrier, what 4", () -> Scenes.quiet().barrierLog(1, 4));
        CheckpointSwap x = Check.system("system 1 1 lru;process int 8;process int 8;process int 1;");
        for (int k = 0; k < 17; k++) {
            x.readPage(k / 8, k % 8);
        }
        Check.argument("leastFrames of a number below 0", () -> x.leastFrames(-1));

        Document.section(7, "A call that throws an exception changes nothing.");
        Refusal.outside("readPage", Scenes::full, y -> y.readPage(0, 5));
        Refusal.state("readPage", Scenes::full, y -> y.readPage(0, 4));
        Refusal.state("writePage", Scenes::full, y -> y.writePage(0, 4, 9));
        Refusal.state("writePage", Scenes::fullInBarrier, y -> y.writePage(0, 3, 9));
        Refusal.state("evictPage", Scenes::full, y -> y.evictPage(0, 3));
        Refusal.unsupported("commitBarrier", Scenes::busy, y -> y.commitBarrier());
        Refusal.state("undo", UndoEdges::undone, y -> y.undo());
    }

    private static CheckpointSwap undone() {
        CheckpointSwap x = Scenes.quiet();
        for (int k = 0; k < 10; k++) {
            x.undo();
        }
        return x;
    }

    private static void firstSystem() {
        Document.section(7, "Before the first correct system text there is a system with 1 frame, 1 slot, policy 0 "
                + "and no processes.");
        for (int k = 0; k < 2; k++) {
            CheckpointSwap x = new CheckpointSwap();
            if (k == 1) {
                Check.parse(x, "system 4 5 fifo;process int 9;");
            }
            Check.due("frames", x.frameCount(), 1);
            Check.due("frame 0", x.frameOwner(0), -1);
            Check.outside("frame 1", () -> x.frameOwner(1));
            Check.due("slots", x.slotCount(), 1);
            Check.due("slot 0", x.slotUse(0), 0);
            Check.outside("slot 1", () -> x.slotUse(1));
            Check.due("free", x.freeSlots() + x.longestRun() + x.nextSlot() + x.freeSlot(0), 2);
            Check.due("policy", x.setPolicy(0), 0);
            Check.due("processes", x.processCount(), 0);
            Check.due("crash", x.crash(), 0);
            Check.due("a script", Check.script(x, "crash;crash;"), 2);
            Check.due("a script", Check.script(x, "read 0 0;"), -1);
            Check.due("totals", x.total(4) + x.total(0) + x.total(5) + x.total(6), 3);
        }
    }

    private static void undo() {
        Document.promise(64, "Undoes the latest change that was not undone yet.",
                "Returns how many changes can still be undone.");
        CheckpointSwap x = Check.system("system 2 5 lru;process int 3;");
        String[] states = new String[12];
        for (int k = 0; k < 12; k++) {
            states[k] = Snapshot.ofState(x);
            x.writePage(0, k % 3, k + 1);
        }
        for (int k = 11; k >= 2; k--) {
            Check.due("left", x.undo(), k - 2);
            Check.dueText("state " + k, Snapshot.ofState(x), states[k]);
        }
        Document.promise(64, "Throws `IllegalStateException` if there is none");
        Check.state("after ten", () -> x.undo());
        Refusal.state("a new object", CheckpointSwap::new, y -> y.undo());
        Refusal.state("a new system", () -> Check.system("system 1 1 lru;process int 1;"), y -> y.undo());
        Refusal.state("all undone", UndoEdges::undone, y -> y.undo());
        Refusal.state("a refused change", () -> Check.system("system 1 1 lru;process int 1;"), y -> {
            Check.outside("refused", () -> y.readPage(0, 1));
            return y.undo();
        });
    }

    private static void depth() {
        Document.promise(65, "Returns how many changes can be undone.", "Returns 0 to 10.");
        CheckpointSwap x = new CheckpointSwap();
        Check.due("none", x.undoDepth(), 0);
        for (int k = 1; k <= 25; k++) {
            x.setPolicy(k % 3);
            Check.due("changes", x.undoDepth(), Math.min(k, 10));
        }
        for (int k = 9; k >= 0; k--) {
            x.undo();
            Check.due("undone", x.undoDepth(), k);
        }
        Check.state("none", () -> x.undo());
        Check.due("none", x.undoDepth(), 0);
        x.setPolicy(0);
        Check.due("one again", x.undoDepth(), 1);
    }
}
