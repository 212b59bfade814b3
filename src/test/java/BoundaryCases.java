import java.util.List;

/**
 * The document's boundary cases, sentence by sentence: each test names its sentence, and at the end each sentence of the
 * description and of the promises must have been named and checked.
 */
public final class BoundaryCases {
    public static void main(String[] args) {
        List<Runnable> groups = List.of(SystemEdges::run, RecordEdges::run, TextEdges::run, ScriptEdges::run, UndoEdges::run,
                ChangeEdges::run, PageEdges::run, SlotEdges::run, BarrierEdges::run, AccessEdges::run);
        for (Runnable group : groups) {
            try {
                group.run();
            } catch (RuntimeException e) {
                Check.report("a call that should answer threw " + e);
                e.printStackTrace(System.out);
            }
        }
        Document.end();
        Check.end(1, 65);
    }
}
