import java.io.IOException;
import java.nio.file.Path;

/** Each sentence of the document that names a boundary case, at that boundary and on both sides of it. */
public final class EdgesTest {
    private EdgesTest() {
    }

    public static void main(String[] args) throws IOException {
        Edges edges = new Edges(Path.of(System.getProperty("document", "../shared/DOC.md")));
        new TapeEdges(edges).run();
        new TextEdges(edges).run();
        new RowEdges(edges).run();
        new ActEdges(edges).run();
        new EquationEdges(edges).run();
        new StateEdges(edges).run();
        edges.close("EdgesTest");
    }
}
