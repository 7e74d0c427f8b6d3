/** Each sentence of the document that names a boundary case, with a test of its own. */
public final class BoundariesTest extends Sentences {
    private BoundariesTest() {
    }

    public static void main(String[] args) throws Exception {
        readDocument("../shared/DOC.md");
        DescriptionBoundaries.run();
        BallotBoundaries.run();
        RuleBoundaries.run();
        ChangeBoundaries.run();
        finish();
    }
}
