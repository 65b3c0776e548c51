import java.io.IOException;

/**
 * Each sentence of the document that names an edge has a test of its own here, which says beside it which one it holds.
 * That no sentence of the terms or of a promise is forgotten is checked against the document itself.
 */
public final class EdgesTest {
    public static void main(String[] args) throws IOException {
        Check check = new Check("EdgesTest");
        Doc doc = new Doc();
        new TextEdges(check, doc).run();
        new TableEdges(check, doc).run();
        new ShareEdges(check, doc).run();
        new DoneEdges(check, doc).run();
        new SumEdges(check, doc).run();
        check.about("");
        for (String piece : doc.unquoted()) {
            check.due("how many tests hold: " + piece, 0, 1);
        }
        check.end();
    }
}
