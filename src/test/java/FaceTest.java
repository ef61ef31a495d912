import java.lang.reflect.Constructor;
import java.lang.reflect.Field;
import java.lang.reflect.Method;
import java.lang.reflect.Modifier;
import java.util.Set;
import java.util.TreeSet;

/** The public face is the document's, and nothing else is seen from outside. */
public final class FaceTest {
    private static final String INT_METHODS = "street() set(int,int) lawOf(int) thing(int,int,int,int)"
        + " of(int,int) does(int,int) mind(int,int,int) value(int,int) lay(int,int) take(int) bring(int)"
        + " think(int) pit(int,int) years(int) seed(int) year() luck(int) state(int) thought(int) dug(int)"
        + " empty() praised(int) pitFor(int,int) kindFor(int,int) worthFor(int,int,int) beginFor(int)"
        + " awayFor(int,int) above(int) fits(int,int,int) prove(int,int) row(int,int)"
        + " alterRow(int,int,int) judge(int) minds(int,int,int,int) sheet(int,int,int) put(int,int,int)"
        + " item(int,int,int) shelf(int,int,int) taken(int,int) act(int,int,int) trace(int) many(int)"
        + " keep() again() feed(long,int)";
    private static final String LONG_METHODS = "odds(int,int,int) hope(int,int)";

    public static void main(String[] args) {
        Check check = new Check();
        Class<?> face = SampleLayers.class;
        check.holds("public and final", Modifier.isPublic(face.getModifiers())
            && Modifier.isFinal(face.getModifiers()));
        checkMethods(check, face);
        checkFields(check, face);
        Constructor<?>[] all = face.getDeclaredConstructors();
        check.holds("one public constructor without arguments",
            all.length == 1 && all[0].getParameterCount() == 0 && Modifier.isPublic(all[0].getModifiers()));
        for (Class<?> inside : face.getDeclaredClasses()) {
            check.holds(inside + " is static, and not public", Modifier.isStatic(inside.getModifiers())
                && !Modifier.isPublic(inside.getModifiers()) && !Modifier.isProtected(inside.getModifiers()));
        }
        check.due("BAD", SampleLayers.BAD, -1);
        check.due("FULL", SampleLayers.FULL, -2);
        check.due("NONE", SampleLayers.NONE, -3);
        check.end();
    }

    private static void checkMethods(Check check, Class<?> face) {
        Set<String> wanted = new TreeSet<>();
        for (String method : INT_METHODS.split(" ")) {
            wanted.add("int " + method);
        }
        for (String method : LONG_METHODS.split(" ")) {
            wanted.add("long " + method);
        }
        check.due("methods of the document", wanted.size(), 47);
        Set<String> publicNames = new TreeSet<>();
        Set<String> found = new TreeSet<>();
        for (Method method : face.getDeclaredMethods()) {
            if (Modifier.isPublic(method.getModifiers())) {
                found.add(told(method));
                publicNames.add(method.getName());
            }
        }
        check.holds("methods are " + found, found.equals(wanted));
        checkPrivate(check, face, publicNames);
        for (Class<?> inside : face.getDeclaredClasses()) {
            for (Method method : inside.getDeclaredMethods()) {
                check.holds(method + " has a name of its own", !publicNames.contains(method.getName()));
                check.holds(method + " takes at most seven", method.getParameterCount() <= 7);
            }
        }
    }

    private static void checkPrivate(Check check, Class<?> face, Set<String> publicNames) {
        for (Method method : face.getDeclaredMethods()) {
            if (!Modifier.isPublic(method.getModifiers())) {
                check.holds(method + " is private", Modifier.isPrivate(method.getModifiers()));
                check.holds(method + " has a name of its own", !publicNames.contains(method.getName()));
                check.holds(method + " takes at most seven", method.getParameterCount() <= 7);
            }
        }
    }

    private static String told(Method method) {
        StringBuilder told = new StringBuilder(method.getReturnType().getName());
        told.append(' ').append(method.getName()).append('(');
        for (Class<?> parameter : method.getParameterTypes()) {
            told.append(told.charAt(told.length() - 1) == '(' ? "" : ",").append(parameter.getName());
        }
        return told.append(')').toString();
    }

    private static void checkFields(Check check, Class<?> face) {
        Set<String> constants = new TreeSet<>();
        for (Field field : face.getDeclaredFields()) {
            int modifiers = field.getModifiers();
            if (Modifier.isPublic(modifiers)) {
                constants.add(field.getName());
                check.holds(field + " is a constant", Modifier.isStatic(modifiers)
                    && Modifier.isFinal(modifiers) && field.getType() == int.class);
            } else {
                check.holds(field + " is private", Modifier.isPrivate(modifiers));
                check.holds(field + " is no static state",
                    !Modifier.isStatic(modifiers) || Modifier.isFinal(modifiers));
            }
        }
        check.holds("constants are " + constants, constants.equals(Set.of("BAD", "FULL", "NONE")));
    }
}
