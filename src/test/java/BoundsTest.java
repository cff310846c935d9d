import java.io.IOException;
import java.nio.file.Path;

/** The bounds that the document names, a test for each sentence that names one. */
final class BoundsTest {
    private BoundsTest() {
    }

    public static void main(String[] args) throws IOException {
        StationBounds.all();
        CastBounds.all();
        WaterBounds.all();
        LineBounds.all();
        ReadingBounds.all();
        ActBounds.all();
        StatusBounds.all();
        Sentences.compare(Path.of(args.length > 0 ? args[0] : ".", "..", "shared", "DOC.md"));
        Check.end();
    }
}
