import java.io.IOException;
import java.nio.file.Path;

/** Each sentence of the document that names a boundary case, with a test of its own. */
final class EdgesTest {
    public static void main(String[] args) throws IOException {
        EdgesOfTerms.run();
        EdgesOfWeights.run();
        EdgesOfHearing.run();
        EdgesOfSounds.run();
        EdgesOfLanguage.run();
        EdgesOfRows.run();
        EdgesOfSearch.run();
        EdgesOfPath.run();
        Sentence.compareWith(Path.of("..", "shared", "DOC.md"));
        Check.end();
    }
}
