import java.io.IOException;
import java.nio.file.Path;

/** Each sentence of the document that names a boundary case, with a test of its own. */
public final class SentencesTest {
    private SentencesTest() {
    }

    public static void main(String[] args) throws IOException {
        Sentences of = new Sentences(Path.of("..", "shared", "DOC.md"));
        of.leftOut("NamedMoves");
        // FaceTest looks at it.
        of.leftOut("The public face");
        SentencesOfPlaces.all(of);
        SentencesOfMoves.all(of);
        SentencesOfTexts.all(of);
        SentencesOfUndoAndErrors.all(of);
        SentencesOfOwner.all(of);
        SentencesOfMovers.all(of);
        SentencesOfLooking.all(of);
        SentencesOfForecasts.all(of);
        of.leftOut("Not promised");
        of.end();
    }
}
