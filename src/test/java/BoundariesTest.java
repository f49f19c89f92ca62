import java.io.IOException;

/** Promises 1 to 39, sentence by sentence: each that names a boundary, with a test of its own. */
final class BoundariesTest {
    public static void main(String[] args) throws IOException {
        Refusals.all();
        TableBounds.all();
        EquationBounds.all();
        HostBounds.all();
        Sentences.end();
        Due.end();
    }
}
