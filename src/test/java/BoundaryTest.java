import java.io.IOException;

/** Each sentence of the document that names a boundary case has a test, which names its promise and quotes it. */
public final class BoundaryTest {
    public static void main(String[] args) throws IOException {
        // Any argument has each case listed.
        Boundary.begin(args.length > 0);
        SlotBoundaries.all();
        SaleBoundaries.all();
        RuleBoundaries.all();
        DoorBoundaries.all();
        RefusedBoundaries.all();
        System.exit(Boundary.allHold() ? 0 : 1);
    }
}
