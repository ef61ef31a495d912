import java.io.IOException;

/**
 * Each sentence of DOC.md by a test of its own, under its promise; and that no word of the promises,
 * nor of the terms ahead of them, goes without one.
 */
public final class SentencesTest {
    public static void main(String[] args) throws IOException {
        Check check = new Check();
        Document document = Document.read();
        new StreetSentences(document, check).all();
        new TextSentences(document, check).all();
        new YearSentences(document, check).all();
        new ChoiceSentences(document, check).all();
        new RowSentences(document, check).all();
        new ActSentences(document, check).all();
        for (int part = Document.TERMS; part <= Document.PROMISES; part++) {
            for (String words : document.unquoted(part)) {
                check.holds(part + " has words without a test: " + words, false);
            }
        }
        check.end();
    }
}
