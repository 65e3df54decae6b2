/**
 * The document, sentence by sentence: "What it is", "Terms" and the promises 1 to 18, each sentence
 * with a test of its own, of what is ordinary, of the edges that it names and of what it refuses.
 * "Not promised" is all that has none.
 */
public final class SentenceTest {
    public static void main(String[] args) {
        Check check = new Check("SentenceTest");
        Sentences s = new Sentences(check);
        new WholeEdges(check, s).whatItIs();
        terms(check, s);
        new SetupEdges(check, s).all();
        new PacketEdges(check, s).all();
        new ViewEdges(check, s).all();
        check.end();
    }

    private static void terms(Check check, Sentences s) {
        TermsEdges terms = new TermsEdges(check, s);
        CycleEdges cycle = new CycleEdges(check, s);
        s.section("Terms");
        terms.term1();
        cycle.upToDraining();
        new ArbiterEdges(check, s).sending();
        cycle.behindSending();
        terms.belowTheTerms();
        s.endSection();
    }
}
