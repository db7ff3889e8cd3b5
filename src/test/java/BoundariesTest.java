import java.io.IOException;
import java.nio.file.Files;
import java.nio.file.Path;

/** Every sentence of the document that names a boundary, with answers of its own; then the document is asked for what is left. */
public final class BoundariesTest {
    private static final Path DOCUMENT = Path.of("../shared/DOC.md");

    private BoundariesTest() {
    }

    public static void main(String[] args) throws IOException {
        Sentences doc = new Sentences();
        new TextBoundaries(doc).run();
        new FireBoundaries(doc).run();
        new SpreadBoundaries(doc).run();
        new ChanceBoundaries(doc).run();
        new CallBoundaries(doc).run();
        new QuestionBoundaries(doc).run();
        if (Files.exists(DOCUMENT)) {
            doc.lookInto(Files.readString(DOCUMENT));
        } else {
            System.out.println("the document is not there: quotes were not looked up");
        }
        doc.end();
    }
}
