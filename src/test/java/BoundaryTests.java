import java.io.IOException;
import java.nio.file.Path;
import java.util.List;

/** Each sentence of the document, promise by promise, at its boundaries; the tests stand in src/test/boundary. */
public final class BoundaryTests {
    public static void main(String[] args) throws IOException {
        RowSentences.all();
        TextSentences.all();
        ShapeSentences.all();
        WordSentences.all();
        NeighbourSentences.all();
        PictureSentences.all();
        TellingSentences.all();
        Sentences.endSentence();
        List<String> amiss = new Document(Path.of("../shared/DOC.md")).amiss(Sentences.QUOTES);
        amiss.forEach(System.out::println);
        System.out.println(Sentences.QUOTES.size() + " sentences, " + Sentences.checks() + " checks, "
                + Sentences.wrong() + " wrong, " + amiss.size() + " sentences amiss");
        if (Sentences.wrong() != 0 || !amiss.isEmpty()) {
            System.exit(1);
        }
    }
}
