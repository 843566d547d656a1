import java.io.IOException;
import java.nio.file.Path;

/** Each sentence of the document that names a boundary case: a test of its own, which quotes it. */
public final class EdgesTest {
  public static void main(String[] args) throws IOException {
    Path root = Path.of(args.length > 0 ? args[0] : ".");
    Edges due = new Edges(root.resolve("../shared/DOC.md"));
    new NumberEdges(due).all();
    new TextEdges(due).all();
    new ShelfEdges(due).all();
    new ListEdges(due).all();
    new WorldEdges(due).all();
    new RefusedEdges(due).all();
    due.allQuoted();
    due.finish();
  }
}
