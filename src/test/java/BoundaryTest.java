// Every sentence of the document, from its first line to its last promise, by the tests that are for it.
public final class BoundaryTest {
    public static void main(String[] args) throws Exception {
        boolean all = Boundary.run(AboutSentences.class, ValleySentences.class, TextSentences.class, ComingSentences.class,
                CallSentences.class);
        if (!all) {
            System.exit(1);
        }
    }
}
