import java.nio.file.Files;
import java.nio.file.Path;

/** A test for each sentence of the document, edges and refusals above all; none may be without one. */
public final class SentencesTest {
    private SentencesTest() {
    }

    public static void main(String[] args) throws Exception {
        Path shared = Path.of(args.length > 0 ? args[0] : "../shared");
        Due due = new Due();
        Sentences s = new Sentences(Files.readString(shared.resolve("DOC.md")), due);
        TermsSentences.run(s);
        RowsSentences.run(s);
        LandsSentences.run(s);
        EveningsSentences.run(s);
        AsideSentences.run(s);
        PlansSentences.run(s);
        MovedSentences.run(s);
        BordersSentences.run(s);
        LotsSentences.run(s);
        ToldSentences.run(s);
        s.end();
        due.about("all");
        due.end("SentencesTest");
    }
}
