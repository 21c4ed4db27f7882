import java.io.IOException;
import java.nio.file.Files;
import java.nio.file.Path;

/** Each sentence of the document has a test of its own; and no sentence of the document is left out. */
public final class SentencesTest {
    private static final Path DOCUMENT = Path.of("..", "shared", "DOC.md");

    public static void main(String[] args) throws IOException {
        Sentences s = new Sentences();
        DescriptionSentences.tell(s);
        DescribedTables.tell(s);
        NetworkSentences.tell(s);
        LabelSentences.tell(s);
        TableSentences.tell(s);
        LetterSentences.tell(s);
        SearchSentences.tell(s);
        TextSentences.tell(s);
        StateSentences.tell(s);
        s.runAll();
        compareWithDocument(s);
        Expect.end();
    }

    private static void compareWithDocument(Sentences s) throws IOException {
        if (!Files.exists(DOCUMENT)) {
            System.out.println("there is no " + DOCUMENT + ", so the sentences are not held against it");
            return;
        }
        Document document = Document.read(DOCUMENT);
        for (int part = 0; part < Document.PARTS; part++) {
            document.compare(part, s.wordsOf(part));
        }
    }
}
