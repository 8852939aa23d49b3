// Every sentence of the document, from its terms to its last promise, by the tests that are for it.
public final class BoundaryTest {
    public static void main(String[] args) throws Exception {
        boolean all = Boundary.run(ValleySentences.class, TextSentences.class, ComingSentences.class, CallSentences.class);
        if (!all) {
            System.exit(1);
        }
    }
}
