import java.io.IOException;
import java.nio.file.Files;
import java.nio.file.Path;

/** Each sentence of the document that names a boundary has runs of its own, and each is kept. */
public final class BoundsTests {
    public static void main(String[] args) throws IOException {
        Bounds bounds = new Bounds();
        LionBounds.all(bounds);
        TextBounds.all(bounds);
        YearBounds.all(bounds);
        ThoughtBounds.all(bounds);
        SheetBounds.all(bounds);
        Path document = Path.of("../shared/DOC.md");
        if (Files.isReadable(document)) {
            bounds.covers(document);
        } else {
            System.out.println("no document at " + document + ": whether each of its sentences has a run isn't seen");
        }
        System.exit(bounds.ends());
    }
}
