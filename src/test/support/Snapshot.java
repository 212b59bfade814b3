/** All that can be asked of an object without a change of it, as one text. */
final class Snapshot {
    private final CheckpointSwap x;
    private final StringBuilder text = new StringBuilder();

    private Snapshot(CheckpointSwap x) {
        this.x = x;
    }

    /** The state alone: what undo() gives back. */
    static String ofState(CheckpointSwap x) {
        Snapshot snapshot = new Snapshot(x);
        snapshot.state();
        return snapshot.text.toString();
    }

    /** The state, and the buffer, the report, the latest error and the undo depth. */
    static String of(CheckpointSwap x) {
        Snapshot snapshot = new Snapshot(x);
        snapshot.state();
        snapshot.besideTheState();
        return snapshot.text.toString();
    }

    /** A cut at the present length is the only one that changes nothing, and all above are refused. */
    static int bufferLength(CheckpointSwap x) {
        for (int length = 400; length > 0; length--) {
            try {
                return x.truncateText(length);
            } catch (IllegalArgumentException e) {
                continue;
            }
        }
        return 0;
    }

    private void add(String what, Check.Call call) {
        text.append(what).append('=');
        try {
            text.append(call.run());
        } catch (RuntimeException e) {
            text.append(e.getClass().getSimpleName());
        }
        text.append(' ');
    }

    private void state() {
        add("processes", () -> x.processCount());
        add("epoch", () -> x.epoch());
        for (int k = 0; k < x.processCount(); k++) {
            process(k);
        }
        frames();
        slots();
        barriers();
        accesses();
    }

    private void process(int p) {
        add("\npages", () -> x.pageCount(p));
        add("kind", () -> x.kindOf(p));
        add("resident", () -> x.residentPages(p));
        add("dirty", () -> x.dirtyPages(p));
        add("lost", () -> x.lostPages(p));
        add("checkpoint", () -> x.checkpointEpoch(p));
        for (int k = 0; k < x.pageCount(p); k++) {
            int v = k;
            add("\n value", () -> x.peek(p, v));
            add("float", () -> Float.floatToRawIntBits(x.peekFloat(p, v)));
            add("state", () -> x.pageState(p, v));
            add("frame", () -> x.frameOf(p, v));
            add("slot", () -> x.slotOf(p, v));
            add("recordedSlot", () -> x.checkpointSlot(p, v));
            add("recordedValue", () -> x.checkpointValue(p, v));
        }
    }

    private void frames() {
        add("\nframes", () -> x.frameCount());
        add("victim", () -> x.victim());
        for (int k = 0; k < x.frameCount(); k++) {
            int f = k;
            add("owner", () -> x.frameOwner(f));
            add("used", () -> x.frameTime(f, 0));
            add("loaded", () -> x.frameTime(f, 1));
        }
    }

    private void slots() {
        add("\nslots", () -> x.slotCount());
        add("next", () -> x.nextSlot());
        add("free", () -> x.freeSlots());
        add("shared", () -> x.sharedSlots());
        add("run", () -> x.longestRun());
        for (int k = 0; k < x.slotCount(); k++) {
            int s = k;
            add("\n use", () -> x.slotUse(s));
            add("owner", () -> x.slotOwner(s));
            add("stamp", () -> x.slotStamp(s));
            add("value", () -> x.slotValue(s));
            add("twins", () -> x.twins(s));
            add("inOrder", () -> x.freeSlot(s));
        }
    }

    private void barriers() {
        add("\nbarrier", () -> x.barrierSet());
        add("pending", () -> x.pendingPages());
        for (int k = 0; k < x.pendingPages(); k++) {
            int index = k;
            add("page", () -> x.pendingPage(index));
        }
        add("best", () -> x.bestBarrier(48));
        for (int k = 0; k < 9; k++) {
            int index = k;
            for (int what = 0; what < 4; what++) {
                int w = what;
                add("log", () -> x.barrierLog(index, w));
            }
        }
    }

    private void accesses() {
        text.append('\n');
        for (int k = 0; k < 65; k++) {
            int index = k;
            add("recent", () -> x.recentAccess(index));
        }
        add("hottest", () -> x.hottestPage());
        add("ratio", () -> x.hitRatioBits());
        for (int k = 0; k < 8; k++) {
            int what = k;
            add("total", () -> x.total(what));
        }
    }

    private void besideTheState() {
        add("\nbuffer", () -> bufferLength(x));
        add("code", () -> x.errorCode());
        add("position", () -> x.errorPosition());
        add("undo", () -> x.undoDepth());
        text.append('\n');
        for (int k = 0; k < 400; k++) {
            try {
                text.append((char) x.reportByte(k));
            } catch (IndexOutOfBoundsException e) {
                break;
            }
        }
    }
}
