import com.sun.management.ThreadMXBean;
import java.lang.management.ManagementFactory;
import java.lang.reflect.Array;
import java.lang.reflect.Field;
import java.lang.reflect.Method;
import java.lang.reflect.Modifier;
import java.util.ArrayList;
import java.util.Collections;
import java.util.IdentityHashMap;
import java.util.LinkedHashMap;
import java.util.List;
import java.util.Map;
import java.util.Set;
import java.util.function.ToLongFunction;

/** How much room an object takes: what is made with it, and that no call makes anything. */
public final class RoomTest {
    private static final int MOST_TRIES = 6, CALLS = 50;
    /** A run may make a thousand objects, of some 600,000 objects and 7.3 million fields and elements in all. */
    private static final int MOST_OBJECTS = 600, MOST_PARTS = 7300;
    private static final long STATEMENT = Tapes.packed("dig 4;");
    private static final ThreadMXBean THREADS = (ThreadMXBean) ManagementFactory.getThreadMXBean();

    /** Each told by the names of the calls that it makes. */
    private static final Map<String, ToLongFunction<SampleLayers>> CALLED = new LinkedHashMap<>();

    private RoomTest() {
    }

    public static void main(String[] args) throws IllegalAccessException {
        Check check = new Check();
        measureOne(check, new SampleLayers());
        fillTried();
        fillPlain();
        List<String> names = List.of(String.join(" ", CALLED.keySet()).split("\\W+"));
        for (Method method : SampleLayers.class.getDeclaredMethods()) {
            check.holds(method + " is measured",
                !Modifier.isPublic(method.getModifiers()) || names.contains(method.getName()));
        }
        for (Map.Entry<String, ToLongFunction<SampleLayers>> one : CALLED.entrySet()) {
            check.due(one.getKey() + " makes nothing", leastMade(one.getValue()), 0);
        }
        check.end();
    }

    private static void measureOne(Check check, SampleLayers one) throws IllegalAccessException {
        Set<Object> seen = Collections.newSetFromMap(new IdentityHashMap<>());
        List<Object> open = new ArrayList<>(List.of(one));
        int parts = 0;
        while (!open.isEmpty()) {
            Object next = open.remove(open.size() - 1);
            if (next != null && seen.add(next)) {
                parts += next.getClass().isArray() ? Array.getLength(next) : addFields(next, open);
            }
        }
        check.holds("objects and arrays of one: " + seen.size(), seen.size() <= MOST_OBJECTS);
        check.holds("fields and elements of one: " + parts, parts <= MOST_PARTS);
    }

    /** How many fields it has; what they hold is opened. */
    private static int addFields(Object holder, List<Object> open) throws IllegalAccessException {
        int many = 0;
        for (Field field : holder.getClass().getDeclaredFields()) {
            if (Modifier.isStatic(field.getModifiers())) {
                continue;
            }
            many++;
            if (!field.getType().isPrimitive()) {
                field.setAccessible(true);
                open.add(field.get(holder));
            }
        }
        return many;
    }

    /** The machine itself makes something at times, so of several tries the one that makes least counts. */
    private static long leastMade(ToLongFunction<SampleLayers> call) {
        SampleLayers one = new SampleLayers();
        Sentences.makeRich(one);
        long least = Long.MAX_VALUE;
        for (int i = 0; i < MOST_TRIES && least > 0; i++) {
            least = Math.min(least, made(one, call));
        }
        return least;
    }

    private static long made(SampleLayers one, ToLongFunction<SampleLayers> call) {
        long before = THREADS.getCurrentThreadAllocatedBytes();
        for (int i = 0; i < CALLS; i++) {
            call.applyAsLong(one);
        }
        return THREADS.getCurrentThreadAllocatedBytes() - before;
    }

    private static void fillTried() {
        CALLED.put("feed, street", x -> x.feed(STATEMENT, 6) + x.street());
        CALLED.put("street with a fault", x -> x.feed('?', 1) + x.street());
        CALLED.put("years", x -> x.years(60));
        CALLED.put("year", x -> x.year());
        CALLED.put("luck", x -> x.luck(30));
        CALLED.put("state", x -> x.state(5));
        CALLED.put("thought", x -> x.thought(60));
        CALLED.put("dug", x -> x.dug(0));
        CALLED.put("empty", x -> x.empty());
        CALLED.put("praised", x -> x.praised(99));
        CALLED.put("pitFor", x -> x.pitFor(0, 20));
        CALLED.put("kindFor", x -> x.kindFor(0, 20));
        CALLED.put("worthFor", x -> x.worthFor(0, 20, 99));
        CALLED.put("beginFor", x -> x.beginFor(20));
        CALLED.put("awayFor", x -> x.awayFor(20, 99));
        CALLED.put("fits", x -> x.fits(0, 0, 0));
        CALLED.put("odds", x -> x.odds(8, 4, 1));
        CALLED.put("hope", x -> x.hope(99, 0));
        CALLED.put("prove", x -> x.prove(0, 10));
        CALLED.put("judge", x -> x.judge(0));
        CALLED.put("minds", x -> x.minds(0, 0, 0, 5));
        CALLED.put("sheet", x -> x.sheet(0, 0, 40));
        CALLED.put("act", x -> x.act(0, 3, 5));
    }

    private static void fillPlain() {
        CALLED.put("set", x -> x.set(0, 5));
        CALLED.put("lawOf", x -> x.lawOf(0));
        CALLED.put("thing", x -> x.thing(1, 2, 3, 4));
        CALLED.put("of", x -> x.of(0, 4));
        CALLED.put("does", x -> x.does(1, 1));
        CALLED.put("mind", x -> x.mind(0, 5, 5));
        CALLED.put("value", x -> x.value(0, 5));
        CALLED.put("lay", x -> x.lay(0, 5));
        CALLED.put("take", x -> x.take(0));
        CALLED.put("bring", x -> x.bring(5));
        CALLED.put("think", x -> x.think(5));
        CALLED.put("pit", x -> x.pit(1, 0) + x.pit(1, 1));
        CALLED.put("seed", x -> x.seed(5));
        CALLED.put("above", x -> x.above(0));
        CALLED.put("row", x -> x.row(0, 1));
        CALLED.put("alterRow", x -> x.alterRow(0, 1, 5));
        CALLED.put("put", x -> x.put(0, 0, 5));
        CALLED.put("item", x -> x.item(0, 0, 0));
        CALLED.put("shelf", x -> x.shelf(0, 0, 0) + x.shelf(1, 1, 1) + x.shelf(2, 2, 0));
        CALLED.put("taken", x -> x.taken(0, 0) + x.taken(1, 11));
        CALLED.put("trace", x -> x.trace(0));
        CALLED.put("many", x -> x.many(3));
        CALLED.put("keep", x -> x.keep());
        CALLED.put("again", x -> x.again());
        CALLED.put("all refused", x -> x.feed(0, 0) + x.set(-1, 0) + x.thing(-1, 0, 0, 0) + x.minds(9, 0, 0, 0)
            + x.sheet(0, 0, -1) + x.put(0, -1, 0) + x.shelf(9, 0, 0) + x.act(9, 0, 0));
    }
}
