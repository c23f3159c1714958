import java.io.IOException;
import java.nio.file.Path;

/** Each sentence of the document; where it names a bound, at the bound and just beyond it. Run at the top. */
public final class BoundsTest {
    private BoundsTest() {
    }

    public static void main(String[] args) throws IOException {
        Doc doc = new Doc(Path.of("../shared/DOC.md"));
        SenseBounds.all(doc);
        TermsBounds.all(doc);
        TapeBounds.all(doc);
        TickBounds.all(doc);
        TextBounds.all(doc);
        ChangeBounds.all(doc);
        RunBounds.all(doc);
        BestBounds.all(doc);
        OddsBounds.all(doc);
        SeenBounds.all(doc);
        SheetBounds.all(doc);
        doc.end();
    }
}
