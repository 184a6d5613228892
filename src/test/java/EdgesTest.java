import java.io.IOException;

/** Promises 1 to 28: each sentence of the document that names a boundary case, by a test of its own. */
public final class EdgesTest {
    private EdgesTest() {
    }

    public static void main(String[] args) throws IOException {
        Sentences sentences = new Sentences();
        sentences.run(TextEdges.class);
        sentences.run(PieceEdges.class);
        sentences.run(ActEdges.class);
        sentences.run(SilenceEdges.class);
        sentences.run(SeenEdges.class);
        sentences.run(ChanceEdges.class);
        sentences.run(KeptEdges.class);
        sentences.end();
    }
}
