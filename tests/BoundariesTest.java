import java.io.IOException;

/** For each sentence of the document that names a boundary a test of its own; and that none lacks. */
final class BoundariesTest {
    private BoundariesTest() {
    }

    public static void main(String[] arguments) throws IOException {
        Sentences sentences = new Sentences(RidersBoundaries.class, TextsBoundaries.class, RidesBoundaries.class,
            ThoughtsBoundaries.class, VoicesBoundaries.class, SheetsBoundaries.class);
        sentences.run();
        sentences.allNamed("Ahead of the calls");
        Due.verdict();
    }
}
