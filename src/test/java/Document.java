import java.io.IOException;
import java.nio.file.Files;
import java.nio.file.Path;
import java.util.ArrayList;
import java.util.List;
import java.util.regex.Matcher;
import java.util.regex.Pattern;

/** The words of DOC.md, the terms and each promise, and which of them a test has quoted by now. */
final class Document {
    static final int TERMS = 0, PROMISES = 48;
    private static final Pattern PROMISE =
        Pattern.compile("(?s)## Promise (\\d+): [^\n]+\\s+`[^`]*`: (.*?)(?=\n## |\\z)");
    private static final Pattern UNQUOTED_WORDS = Pattern.compile("[^\\x00]*\\w[^\\x00]*");

    private final String[] parts = new String[PROMISES + 1];
    private final boolean[][] quoted = new boolean[PROMISES + 1][];

    private Document(String text) {
        String terms = text.substring(text.indexOf("## Terms") + 8, text.indexOf("## Promise 1:"));
        setPart(TERMS, terms.replace("```text", "").replaceAll("======== \\d", ""));
        for (Matcher m = PROMISE.matcher(text); m.find();) {
            setPart(Integer.parseInt(m.group(1)), m.group(2));
        }
    }

    static Document read() throws IOException {
        return new Document(Files.readString(Path.of("../shared/DOC.md")));
    }

    private void setPart(int part, String words) {
        parts[part] = evenly(words);
        quoted[part] = new boolean[parts[part].length()];
    }

    private static String evenly(String words) {
        return words.replaceAll("\\s+", " ").trim();
    }

    /** Whether the words stand in the promise, or else in the terms: there they count as quoted now. */
    boolean quote(int promise, String words) {
        return quoteIn(promise, words) || quoteIn(TERMS, words);
    }

    private boolean quoteIn(int part, String words) {
        String even = evenly(words);
        int place = parts[part].indexOf(even);
        boolean isFound = place >= 0;
        while (place >= 0) {
            for (int i = place; i < place + even.length(); i++) {
                quoted[part][i] = true;
            }
            place = parts[part].indexOf(even, place + 1);
        }
        return isFound;
    }

    /** The runs of words of a part that no test has quoted. */
    List<String> unquoted(int part) {
        StringBuilder rest = new StringBuilder();
        for (int i = 0; i < parts[part].length(); i++) {
            rest.append(quoted[part][i] ? '\0' : parts[part].charAt(i));
        }
        List<String> all = new ArrayList<>();
        for (Matcher m = UNQUOTED_WORDS.matcher(rest); m.find();) {
            all.add(m.group().trim());
        }
        return all;
    }
}
