/** The document's boundaries, sentence by sentence: too small, too large, empty, full, wrapping, refused. */
public final class BoundariesTest {
    private BoundariesTest() {
    }

    public static void main(String[] args) {
        LedgeBoundaries.run();
        UrchinBoundaries.run();
        TideBoundaries.run();
        SeenBoundaries.run();
        PlanBoundaries.run();
        ActBoundaries.run();
        ImageBoundaries.run();
        RefusalBoundaries.run();
        Boundaries.end();
        Check.end("BoundariesTest");
    }
}
