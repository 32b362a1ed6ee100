import java.io.IOException;
import java.nio.file.Path;

/** The boundary cases: too small, too large, empty, full, a wrap-around, a refused call. */
public final class BoundariesTest {
    public static void main(String[] args) throws IOException {
        Sentences sentences = new Sentences(Path.of("../shared/DOC.md"));
        new TermsBoundaries(sentences).ask();
        new KindsBoundaries(sentences).ask();
        new TableBoundaries(sentences).ask();
        new NetBoundaries(sentences).ask();
        new WorkBoundaries(sentences).ask();
        sentences.end();
    }
}
