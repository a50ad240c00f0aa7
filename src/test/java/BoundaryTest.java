import java.nio.file.Path;

/** Each sentence of ../shared/DOC.md by a test of its own; none of its words, from the terms on, stays untold. */
public final class BoundaryTest {
    public static void main(String[] args) throws Exception {
        Sentences.begin(new Document(Path.of("../shared/DOC.md")));
        PageSentences.all();
        SongSentences.all();
        WouldSentences.all();
        HeardSentences.all();
        ToldSentences.all();
        if (Sentences.end() != 0) {
            System.exit(1);
        }
    }
}
