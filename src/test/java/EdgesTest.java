import java.io.IOException;

/** Each sentence of the document by tests of its own, and no sentence without one. */
public final class EdgesTest {
    public static void main(String[] args) throws IOException {
        Due due = new Due();
        RowEdges.all(due);
        ImageEdges.all(due);
        ReadEdges.all(due);
        PackedRowEdges.all(due);
        FaultEdges.all(due);
        PackingEdges.all(due);
        due.by();
        Document.compare(due, due.sentences());
        due.end();
    }
}
