import java.io.IOException;

/** Every sentence of the document by a test of its own; a wrong answer names its sentence. */
public final class SentencesTest {
    public static void main(String[] args) throws IOException {
        RowEdges.all();
        TextEdges.all();
        ActEdges.all();
        ForetoldEdges.all();
        AskEdges.all();
        TermEdges.all();
        PlainTerms.all();
        PlainPromises.all();
        everyPromiseIsNamed();
        Document.isWhollyTested();
        Due.end();
    }

    private static void everyPromiseIsNamed() {
        for (int n = 1; n <= 30; n++) {
            String heading = "Promise " + n;
            boolean named = Due.tested().stream().anyMatch(tested -> tested[0].equals(heading));
            Due.is("tests of " + heading, 1, named ? 1 : 0);
        }
    }
}
