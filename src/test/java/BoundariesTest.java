import java.io.IOException;

/** Each sentence of the document that names a boundary case has a test of its own, and holds. */
public final class BoundariesTest {
    public static void main(String[] args) throws IOException {
        Sentences.read();
        TermsBoundaries.test();
        PromiseBoundaries.test();
        Sentences.allWithBoundariesAreTested();
        Check.end("BoundariesTest");
    }
}
