import java.io.IOException;

/** Each sentence of the document, quoted, with a test of the edges it names: too small, too large, empty, full, refused. */
public final class EdgesTest {
    public static void main(String[] args) throws IOException {
        Edge.begin();
        BoxEdges.all();
        LayingEdges.all();
        MarkEdges.all();
        TreeEdges.all();
        ThoughtEdges.all();
        TapeEdges.all();
        Edge.end();
    }
}
