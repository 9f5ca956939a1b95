/**
 * A test of its own for each sentence of ../shared/DOC.md: the last number that is taken and the first that is
 * not, nothing told yet, as many as there may be and one more, and each call that is refused.
 */
public final class BoundariesTest {
    public static void main(String[] args) throws Exception {
        Sentences.read();
        LandBoundaries.all();
        FolkBoundaries.all();
        TextBoundaries.all();
        LawBoundaries.all();
        SeatBoundaries.all();
        SiteBoundaries.all();
        YardBoundaries.all();
        StaffBoundaries.all();
        CountBoundaries.all();
        RoofBoundaries.all();
        PurseBoundaries.all();
        FullBoundaries.all();
        if (Sentences.finish() != 0) System.exit(1);
    }
}
