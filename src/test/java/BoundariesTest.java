import java.io.IOException;
import java.nio.file.Files;
import java.nio.file.Path;

/** Each sentence of the document, by its own words: where it begins and ends to hold. Takes the document's path. */
public final class BoundariesTest {
    public static void main(String[] args) throws IOException {
        Sentences doc = new Sentences(Files.readString(Path.of(args[1])));
        new TermBoundaries(doc).run();
        new TextBoundaries(doc).run();
        new HistoryBoundaries(doc).run();
        new StationBoundaries(doc).run();
        new PaperBoundaries(doc).run();
        new TellingBoundaries(doc).run();
        doc.end();
    }
}
