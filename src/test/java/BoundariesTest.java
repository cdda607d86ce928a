/**
 * Each sentence of the document that names a boundary case, with a test of its own. What is told to
 * have no boundary names none; every other sentence has to have a test.
 */
public final class BoundariesTest {

    public static void main(String[] args) {
        TermBoundaries.run();
        RegionBoundaries.run();
        RewritingBoundaries.run();
        PrimeBoundaries.run();
        StatementBoundaries.run();
        ModelBoundaries.run();
        ExceptionBoundaries.run();
        Sentences.hasNoBoundary(0, "A small prover for the algebra of sets");
        Sentences.hasNoBoundary(0, "Terms over four sets are built by calls");
        Sentences.hasNoBoundary(0, "Terms can be rewritten step by step to a normal form");
        Sentences.hasNoBoundary(0, "Most answers can be had in a second way");
        Sentences.hasNoBoundary(0, "The class is not thread-safe");
        Sentences.allTold();
        Check.finish("BoundariesTest");
    }
}
