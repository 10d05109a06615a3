import java.io.IOException;
import java.nio.file.Path;

/** For each sentence of the document that names a boundary case: what comes on both sides of it, what is refused. */
final class EdgeTest {
    private EdgeTest() {
    }

    public static void main(String[] args) throws IOException {
        Edge edge = new Edge();
        EdgeText.all(edge);
        EdgeState.all(edge);
        EdgeDeeds.all(edge);
        EdgeAsk.all(edge);
        EdgeTold.all(edge);
        edge.end(Path.of("../shared/DOC.md"));
    }
}
