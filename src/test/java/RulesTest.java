import java.nio.file.Files;
import java.nio.file.Path;
import java.util.regex.Matcher;
import java.util.regex.Pattern;

/** What of LANGUAGE.md can be seen in the program's text alone. */
public final class RulesTest {
    public static void main(String[] args) throws Exception {
        Check check = new Check();
        String text = withoutComments(Files.readString(Path.of("src/main/java/SampleLayers.java")));
        for (String word : "throw throws try catch finally synchronized assert import package protected lambda"
                .split(" ")) {
            check.holds("no " + word, !Pattern.compile("\\b" + word + "\\b").matcher(text).find());
        }
        for (String sign : new String[] {"->", "::", "Exact(", "System.out", "System.nano", "System.current",
                "Random", "Thread", "float", "double", "equals(", "hashCode", "toString"}) {
            check.holds("no " + sign, !text.contains(sign));
        }
        check.holds("no static initialiser", !Pattern.compile("static\\s*\\{").matcher(text).find());
        check.holds("one file of at most twelve classes", count("\\bclass\\b", text) <= 12);
        check.holds("signs of constants are 1 to 127", text.chars().allMatch(c -> c > 0 && c < 128));
        checkMakings(check, text);
        checkLengths(check, text);
        check.end();
    }

    private static String withoutComments(String text) {
        return text.replaceAll("(?s)/\\*.*?\\*/", "").replaceAll("//[^\n]*", "");
    }

    private static int count(String pattern, String text) {
        int many = 0;
        for (Matcher m = Pattern.compile(pattern).matcher(text); m.find();) {
            many++;
        }
        return many;
    }

    /** All objects and rows are made with the object: each 'new' gives a field its value. */
    private static void checkMakings(Check check, String text) {
        check.due("every new in an assignment of a constructor", count("\\bnew\\b", text),
            count("(?m)^\\s+\\w+ = new \\w+(\\(\\)|\\[[^\\]]+\\]);$", text));
        check.due("no copies", count("\\.clone\\(|copyOf|StringBuilder|ArrayList|String\\.|substring", text), 0);
    }

    /** A method starts with four or eight blanks, a type and a name, and ends with as many and a brace. */
    private static void checkLengths(Check check, String text) {
        Matcher m = Pattern.compile("(?ms)^( {4}| {8})(?:[\\w\\[\\]]+ )*\\w+\\([^;{]*\\) \\{\n(.*?)^\\1\\}$")
            .matcher(text);
        int methods = 0;
        while (m.find()) {
            methods++;
            check.holds("a method stays short: " + m.group().split("\n")[0].trim(),
                m.group(2).split("\n").length <= 60);
        }
        check.holds("the methods were seen", methods > 100);
    }
}
