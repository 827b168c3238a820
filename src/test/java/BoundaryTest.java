import java.io.IOException;

/** A test of its own for each sentence of the document that names a boundary case, named after promise and sentence. */
public final class BoundaryTest {
    private BoundaryTest() {
    }

    public static void main(String[] args) throws IOException {
        Boundary boundary = new Boundary();
        TermsBoundaries.all(boundary);
        MonthBoundaries.all(boundary);
        CoastBoundaries.all(boundary);
        ChartBoundaries.all(boundary);
        WayBoundaries.all(boundary);
        CountBoundaries.all(boundary);
        AheadBoundaries.all(boundary);
        boundary.end();
        Check.end("BoundaryTest");
    }
}
