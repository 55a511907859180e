/**
 * Each sentence of the document that names a boundary case has a test of its own, which quotes it, comes to the
 * boundary from both sides, and looks at what is answered behind a refused call. The quotes are compared to the
 * document, and together they leave nothing of its terms and promises out.
 */
public final class BoundaryTest {
    public static void main(String[] args) {
        BoundaryTerms.all();
        BoundaryMaking.all();
        BoundaryStep.all();
        BoundaryCalls.all();
        BoundaryQuestions.all();
        Check.endOfSentences();
        Check.equal("what no test quotes", Doc.unquoted(), "");
        Check.end();
    }
}
