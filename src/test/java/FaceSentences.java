import java.lang.reflect.Method;
import java.lang.reflect.Modifier;
import java.util.ArrayList;
import java.util.LinkedHashMap;
import java.util.List;
import java.util.Map;
import java.util.regex.Matcher;
import java.util.regex.Pattern;

/** The public face, and above each promise the call that it is about, as the program's text has them. */
final class FaceSentences extends Sentences {
    /** From promise 2 on. */
    private static final String[] NAMES = ("feed street set lawOf thing of does mind value lay take bring think pit"
        + " years seed year luck state thought dug empty praised pitFor kindFor worthFor beginFor awayFor above"
        + " fits odds hope prove row alterRow judge minds sheet put item shelf taken act trace many keep again")
        .split(" ");
    private static final Pattern CLASS = Pattern.compile("(?m)^public final class SampleLayers \\{$");
    private static final Pattern METHOD = Pattern.compile("(?m)^    public ((?:static )?\\w+ (\\w+)\\([^)]*\\)) \\{$");
    private static final Pattern CONSTANTS = Pattern.compile("(?m)^    public static final int [^;]+;$");
    private static final Pattern CONSTRUCTOR = Pattern.compile("(?m)^    public SampleLayers\\([^)]*\\)");

    private final String program;
    /** By its name, each public method as it is written, from its type to its arguments. */
    private final Map<String, String> methods = new LinkedHashMap<>();

    FaceSentences(Document document, Check check, String program) {
        super(document, check);
        this.program = program;
        for (Matcher m = METHOD.matcher(program); m.find();) {
            methods.put(m.group(2), m.group(1));
        }
    }

    @Override
    void all() {
        says(Document.FACE, "public final class SampleLayers {", () -> {
            due("such a line", found(CLASS).size(), 1);
            due("lines of constants", found(CONSTANTS).size(), 1);
            due("constructors", found(CONSTRUCTOR).size(), 1);
            due("methods", methods.size(), NAMES.length);
            holds("public", Modifier.isPublic(SampleLayers.class.getModifiers()));
            holds("final", Modifier.isFinal(SampleLayers.class.getModifiers()));
        });
        constants();
        constructor();
        for (int i = 0; i < NAMES.length; i++) {
            method(i + 2, NAMES[i]);
        }
    }

    private List<String> found(Pattern pattern) {
        List<String> all = new ArrayList<>();
        for (Matcher m = pattern.matcher(program); m.find();) {
            all.add(m.group().trim());
        }
        return all;
    }

    private void constants() {
        for (String line : found(CONSTANTS)) {
            says(Document.FACE, line, () -> {
                due("BAD", SampleLayers.BAD, -1);
                due("FULL", SampleLayers.FULL, -2);
                due("NONE", SampleLayers.NONE, -3);
            });
        }
    }

    private void constructor() {
        for (String line : found(CONSTRUCTOR)) {
            says(Document.FACE, line + ";", () -> due("constructors", SampleLayers.class.getConstructors().length, 1));
            says(1, "Promise 1: A new object `" + line.replace("public ", "") + "`:", () ->
                due("a new object is new", x.many(0), 0));
        }
    }

    private void method(int promise, String name) {
        String written = methods.getOrDefault(name, "no method " + name);
        says(Document.FACE, "public " + written + ";", () -> {
            int such = 0;
            for (Method method : SampleLayers.class.getMethods()) {
                if (method.getName().equals(name)) {
                    such++;
                    holds("is of an object", !Modifier.isStatic(method.getModifiers()));
                    due("exceptions told", method.getExceptionTypes().length, 0);
                }
            }
            due("methods of this name", such, 1);
        });
        says(promise, "Promise " + promise + ": " + name + " `" + written + "`:", () ->
            holds("the face has it", methods.containsKey(name)));
    }
}
