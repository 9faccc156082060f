import java.nio.file.Path;

/** A test for each sentence of the document: what it says, and the edges that it names. */
public final class BoundaryTest {
    public static void main(String[] args) throws Exception {
        Doc d = new Doc(Path.of(args[0], "..", "shared", "DOC.md"));
        SharedSentences.tell(d);
        ShapeSentences.tell(d);
        TieSentences.tell(d);
        AreaSentences.tell(d);
        ChangeSentences.tell(d);
        QuestionSentences.tell(d);
        d.finish();
        Due.finish("BoundaryTest");
    }
}
