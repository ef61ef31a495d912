import java.io.IOException;
import java.nio.file.Files;
import java.nio.file.Path;

/**
 * Each sentence of DOC.md by a test of its own, under its promise; and that no word of it goes without
 * one, from its first line to what is not promised.
 */
public final class SentencesTest {
    public static void main(String[] args) throws IOException {
        Check check = new Check();
        Document document = Document.read();
        new FrontSentences(document, check).all();
        new FaceSentences(document, check, Files.readString(Path.of("src/main/java/SampleLayers.java"))).all();
        new StreetSentences(document, check).all();
        new TextSentences(document, check).all();
        new YearSentences(document, check).all();
        new ChoiceSentences(document, check).all();
        new RowSentences(document, check).all();
        new ActSentences(document, check).all();
        for (int part = 0; part < Document.PARTS; part++) {
            for (String words : document.unquoted(part)) {
                check.holds(Document.nameOf(part) + " has words without a test: " + words, false);
            }
        }
        check.end();
    }
}
