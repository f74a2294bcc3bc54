import java.io.IOException;
import java.nio.file.Path;

/** Each sentence of the document, with calls on both sides of each boundary that it names. */
public final class EdgeTests {
    public static void main(String[] args) throws IOException {
        Checks checks = new Checks();
        Sentences told = new Sentences(Path.of("../shared/DOC.md"), checks);
        new TermEdges(told).all();
        new ChangeEdges(told).all();
        new LookEdges(told).all();
        new TextEdges(told).all();
        new HistoryEdges(told).all();
        new RefusedCalls(told).all();
        told.end();
        checks.end();
    }
}
