import java.io.IOException;
import java.nio.file.Path;

/** Each sentence of the document that names a boundary case, with a test of its own. */
final class EdgeTest {
    public static void main(String[] args) throws IOException {
        Edges edges = new Edges(Path.of("../shared/DOC.md"));
        new PaintEdges(edges).all();
        new ChangeEdges(edges).all();
        new ShadeEdges(edges).all();
        new BackEdges(edges).all();
        new CallEdges(edges).all();
        new QuestionEdges(edges).all();
        edges.end();
    }
}
