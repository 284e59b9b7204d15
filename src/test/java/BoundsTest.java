import java.io.IOException;

/** A test for each sentence of the document that names a boundary case; an argument runs those whose name holds it. */
public final class BoundsTest {
    private BoundsTest() {
    }

    public static void main(String[] args) throws IOException {
        if (args.length > 0) {
            Bounds.onlyOf(args[0]);
        }
        LineBounds.all();
        MinuteBounds.all();
        ShiftBounds.all();
        BottleBounds.all();
        StatusBounds.all();
        PromiseBounds.all();
        BottlePromiseBounds.all();
        Bounds.complain(Sentences.amiss());
        System.out.println("BoundsTest: " + Bounds.tests() + " sentences, "
            + (Bounds.wrong() == 0 ? "all hold" : Bounds.wrong() + " answers are not as due"));
        if (Bounds.wrong() != 0) {
            System.exit(1);
        }
    }
}
