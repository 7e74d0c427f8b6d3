/** Each sentence of the document that names a boundary case, with a test of its own. */
public final class BoundariesTest extends Sentences {
    private BoundariesTest() {
    }

    public static void main(String[] args) throws Exception {
        readDocument("../shared/DOC.md");
        promise(0);
        runAll(DescriptionBoundaries.TESTS);
        runAll(BallotBoundaries.TESTS);
        runAll(RuleBoundaries.TESTS);
        runAll(ChangeBoundaries.TESTS);
        finish();
    }
}
