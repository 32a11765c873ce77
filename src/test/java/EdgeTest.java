/**
 * Each sentence of the document by a test of its own: the last value that is allowed and the first that is
 * not, the empty and the full, and each refused call, which changes nothing. No sentence may be without one.
 */
public final class EdgeTest {
    private static final Runnable[][] PARTS = {SheetEdges.ALL, WordEdges.ALL, TextEdges.ALL, ReadingEdges.ALL,
        ActionEdges.ALL, SearchEdges.ALL, ScriptEdges.ALL, SlotEdges.ALL};

    private EdgeTest() {
    }

    public static void main(String[] args) {
        if (Document.sections() != 33) {
            Checks.tell("the document has " + Document.sections() + " sections, known are 33");
        }
        for (Runnable[] part : PARTS) {
            for (Runnable test : part) {
                try {
                    test.run();
                } catch (RuntimeException e) {
                    Checks.tell("thrown: " + e);
                    e.printStackTrace(System.out);
                }
            }
        }
        if (!Checks.end()) {
            System.exit(1);
        }
    }
}
