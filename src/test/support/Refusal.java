import java.util.NoSuchElementException;

/** Calls that the document refuses: the exception that it gives them, and nothing changed by them. */
final class Refusal {
    interface Scene {
        CheckpointSwap make();
    }

    interface On {
        long call(CheckpointSwap x);
    }

    interface OnOne {
        long call(CheckpointSwap x, int number);
    }

    interface OnPage {
        long call(CheckpointSwap x, int process, int page);
    }

    private static final int LEAST = Integer.MIN_VALUE;
    private static final int MOST = Integer.MAX_VALUE;

    private Refusal() {
    }

    /** Scenes.quiet() has the processes 0 to 2; 32 and 1 << 29 are numbers that could be taken for 0. */
    static void noProcess(OnOne call) {
        for (int number : new int[] {-1, 3, 6, 8, 32, 1 << 29, -32, LEAST, MOST}) {
            outside("process " + number, Scenes::quiet, x -> call.call(x, number));
        }
        outside("process 0 of none", Scenes::unparsed, x -> call.call(x, 0));
    }

    /** The processes of Scenes.quiet() have 3, 2 and 1 pages; 8 * process + page is some page in many rows. */
    static void noPage(OnPage call) {
        int[][] rows = {{-1, 0}, {3, 0}, {6, 0}, {32, 0}, {1 << 29, 0}, {LEAST, 0}, {MOST, 0}, {0, -1}, {0, 3},
            {0, 8}, {1, 2}, {1, -8}, {2, 1}, {2, -1}, {-1, 8}, {0, LEAST}, {0, MOST}, {MOST, MOST}, {LEAST, LEAST}};
        for (int[] row : rows) {
            outside("page " + row[1] + " of process " + row[0], Scenes::quiet, x -> call.call(x, row[0], row[1]));
        }
        outside("page 0 of process 0 of none", Scenes::unparsed, x -> call.call(x, 0, 0));
    }

    /** Scenes.quiet() has 7 slots. */
    static void noSlot(OnOne call) {
        for (int number : new int[] {-1, 7, 47, 48, LEAST, MOST}) {
            outside("slot " + number, Scenes::quiet, x -> call.call(x, number));
        }
        outside("slot 1 of 1", Scenes::unparsed, x -> call.call(x, 1));
    }

    /** Scenes.quiet() has 4 frames. */
    static void noFrame(OnOne call) {
        for (int number : new int[] {-1, 4, 15, 16, LEAST, MOST}) {
            outside("frame " + number, Scenes::quiet, x -> call.call(x, number));
        }
        outside("frame 1 of 1", Scenes::unparsed, x -> call.call(x, 1));
    }

    /** Scenes.quiet() has the sets 1 to 7. */
    static void noSet(Scene scene, OnOne call) {
        for (int set : new int[] {0, 8, 9, 15, 64, 1 << 30, -1, -8, LEAST, LEAST + 1, MOST}) {
            argument("set " + set, scene, x -> call.call(x, set));
        }
    }

    /** Just below and just above a range, and far away. */
    static void notBetween(int least, int most, Scene scene, OnOne call) {
        for (int number : new int[] {least - 1, most + 1, LEAST, MOST}) {
            argument("argument " + number, scene, x -> call.call(x, number));
        }
    }

    static void outside(String what, Scene scene, On call) {
        due(what, IndexOutOfBoundsException.class, scene, call);
    }

    static void argument(String what, Scene scene, On call) {
        due(what, IllegalArgumentException.class, scene, call);
    }

    static void state(String what, Scene scene, On call) {
        due(what, IllegalStateException.class, scene, call);
    }

    static void missing(String what, Scene scene, On call) {
        due(what, NoSuchElementException.class, scene, call);
    }

    static void unsupported(String what, Scene scene, On call) {
        due(what, UnsupportedOperationException.class, scene, call);
    }

    static void arithmetic(String what, Scene scene, On call) {
        due(what, ArithmeticException.class, scene, call);
    }

    /** The same scene is made twice; the object that was not called tells what must have stayed. */
    private static void due(String what, Class<? extends RuntimeException> want, Scene scene, On call) {
        CheckpointSwap x = scene.make();
        CheckpointSwap untouched = scene.make();
        Check.dueThrow(what, want, () -> call.call(x));
        same(what, x, untouched);
    }

    /** Both are alike, also in what undo() gives back and in what stands in the buffer; both are spent then. */
    static void same(String what, CheckpointSwap x, CheckpointSwap y) {
        Check.dueText("all after " + what, Snapshot.of(x), Snapshot.of(y));
        for (int k = y.undoDepth(); k > 0; k--) {
            Check.due("undo after " + what, x.undo(), y.undo());
            Check.dueText("the state undone after " + what, Snapshot.ofState(x), Snapshot.ofState(y));
        }
        Check.due("the text after " + what, x.parseSystem(), y.parseSystem());
        Check.dueText("the parsed text after " + what, Snapshot.of(x), Snapshot.of(y));
    }
}
