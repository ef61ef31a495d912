import java.io.IOException;
import java.nio.file.Files;
import java.nio.file.Path;
import java.util.ArrayList;
import java.util.List;
import java.util.regex.Matcher;
import java.util.regex.Pattern;

/** The words of DOC.md from its first line to its last, and which of them a test has quoted by now. */
final class Document {
    static final int TERMS = 0, PROMISES = 48, WHAT_IT_IS = 49, FACE = 50, NOT_PROMISED = 51, PARTS = 52;
    private static final Pattern SECTION = Pattern.compile("(?s)## ([^\n]+)\n(.*?)(?=\n## |\\z)");
    private static final Pattern PROMISE = Pattern.compile("Promise (\\d+): .+");
    private static final Pattern UNQUOTED_WORDS = Pattern.compile("[^\\x00]*\\w[^\\x00]*");
    /** What marks blocks and groups in the document, and says nothing. */
    private static final Pattern MARKS = Pattern.compile("```\\w*|======== \\d");

    private final String[] parts = new String[PARTS];
    private final boolean[][] quoted = new boolean[PARTS][];

    private Document(String text) {
        int end = text.indexOf("\n## ") + 1;
        String title = text.substring(0, end);
        Matcher m = SECTION.matcher(text);
        while (m.find(end)) {
            int part = partOf(m.group(1));
            String words = part == WHAT_IT_IS ? title + m.group(2) : m.group(2);
            setPart(part, isPromise(part) ? m.group(1) + " " + words : words);
            end = m.end();
        }
        if (end != text.length()) {
            throw new IllegalStateException("unread: " + text.substring(end));
        }
        for (int part = 0; part < PARTS; part++) {
            if (parts[part] == null) {
                throw new IllegalStateException("the document has nothing of " + nameOf(part));
            }
        }
    }

    static Document read() throws IOException {
        return new Document(Files.readString(Path.of("../shared/DOC.md")));
    }

    private static boolean isPromise(int part) {
        return part >= 1 && part <= PROMISES;
    }

    private static int partOf(String heading) {
        Matcher m = PROMISE.matcher(heading);
        if (m.matches()) {
            return Integer.parseInt(m.group(1));
        }
        switch (heading) {
            case "What it is": return WHAT_IT_IS;
            case "The public face": return FACE;
            case "Terms": return TERMS;
            case "Not promised": return NOT_PROMISED;
            default: throw new IllegalStateException("a heading that is not known: " + heading);
        }
    }

    static String nameOf(int part) {
        switch (part) {
            case TERMS: return "terms";
            case WHAT_IT_IS: return "what it is";
            case FACE: return "the public face";
            case NOT_PROMISED: return "not promised";
            default: return "promise " + part;
        }
    }

    private void setPart(int part, String words) {
        if (part < 0 || part >= PARTS || parts[part] != null) {
            throw new IllegalStateException("twice, or more than is known: " + nameOf(part));
        }
        parts[part] = evenly(MARKS.matcher(words).replaceAll(" "));
        quoted[part] = new boolean[parts[part].length()];
    }

    private static String evenly(String words) {
        return words.replaceAll("\\s+", " ").trim();
    }

    /** Whether the words stand in the part, or else in the terms: there they count as quoted now. */
    boolean quote(int part, String words) {
        return quoteIn(part, words) || quoteIn(TERMS, words);
    }

    private boolean quoteIn(int part, String words) {
        String even = evenly(words);
        int place = parts[part].indexOf(even);
        boolean isFound = place >= 0;
        while (place >= 0) {
            for (int i = place; i < place + even.length(); i++) {
                quoted[part][i] = true;
            }
            place = parts[part].indexOf(even, place + 1);
        }
        return isFound;
    }

    /** The runs of words of a part that no test has quoted. */
    List<String> unquoted(int part) {
        StringBuilder rest = new StringBuilder();
        for (int i = 0; i < parts[part].length(); i++) {
            rest.append(quoted[part][i] ? '\0' : parts[part].charAt(i));
        }
        List<String> all = new ArrayList<>();
        for (Matcher m = UNQUOTED_WORDS.matcher(rest); m.find();) {
            all.add(m.group().trim());
        }
        return all;
    }
}
