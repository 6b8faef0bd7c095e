import java.nio.file.Path;

/**
 * Each sentence of the document that names an edge has a test of its own, which tells the promise and the words that it
 * is about; the document's text is asked at the end whether any of its words has none.
 */
public final class EdgesTest {
    public static void main(String[] args) throws Exception {
        String root = args.length > 0 ? args[0] : ".";
        OpeningEdges.run();
        TermEdges.run();
        TextEdges.run();
        RunAndScoreEdges.run();
        FormEdges.run();
        SheetEdges.run();
        WholeEdges.run();
        RefusalEdges.run();
        Document.checkQuotes(Path.of(root, "..", "shared", "DOC.md"));
        Check.end();
    }
}
