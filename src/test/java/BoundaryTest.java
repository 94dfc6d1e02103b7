import java.util.Set;
import java.util.TreeSet;

/** Each sentence of the document that names a boundary case: at the boundary, and a step to each side of it. */
public final class BoundaryTest {
    private static final int PROMISES = 45;

    public static void main(String[] args) throws ReflectiveOperationException {
        Set<Integer> promises = new TreeSet<>();
        Bounds.runAll(TapeBounds.class, promises);
        Bounds.runAll(TextBounds.class, promises);
        Bounds.runAll(BooksBounds.class, promises);
        Bounds.runAll(PartnerBounds.class, promises);
        Bounds.runAll(CloseBounds.class, promises);
        Bounds.runAll(PaperBounds.class, promises);
        Bounds.runAll(KeepBounds.class, promises);
        Check.part("promises with a boundary test");
        for (int number = 1; number <= PROMISES; number++) {
            Check.yes("promise " + number, promises.contains(number));
        }
        Check.finish("BoundaryTest");
    }
}
