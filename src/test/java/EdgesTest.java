/** Every sentence of the document that names an edge, by a test of its own; a wrong answer names its sentence. */
public final class EdgesTest {
    public static void main(String[] args) {
        RowEdges.all();
        TextEdges.all();
        ActEdges.all();
        ForetoldEdges.all();
        AskEdges.all();
        TermEdges.all();
        everyPromiseHasItsSentences();
        Due.end();
    }

    private static void everyPromiseHasItsSentences() {
        for (int promise = 1; promise <= 30; promise++) {
            Due.is("sentences of promise " + promise, 1, Due.wasTested("Promise " + promise) ? 1 : 0);
        }
    }
}
