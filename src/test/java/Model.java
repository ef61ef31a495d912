import java.math.BigInteger;
import java.util.ArrayList;
import java.util.List;
import java.util.TreeSet;
import java.util.function.Consumer;
import java.util.regex.Matcher;
import java.util.regex.Pattern;

/**
 * The document once more, in another form than the program: pits are lists, kinds are classes, rows
 * are arrays of the host, and what the host refuses is what Java throws. Slow, and free of limits
 * on memory; RandomRunsTest lays its answers beside those of SampleLayers.
 */
final class Model {
    static final int BAD = -1, FULL = -2, NONE = -3;

    /** A thing of the topmost kind; the kinds under it say what they do otherwise. */
    static class Thing {
        int number;
        int worth;
        int truth;

        int kind() {
            return 0;
        }

        int speaks(Street in) {
            return worth / 10;
        }

        int hides(Street in) {
            return 1;
        }

        int sinks(List<Integer> trace, int x) {
            trace.add(10);
            return x * 2 + number;
        }

        int shows(List<Integer> trace, int x) {
            trace.add(11);
            return sinks(trace, x) * 3 - truth;
        }

        int parts(List<Integer> trace, int x) {
            trace.add(12);
            return x / (truth - number);
        }

        int asks(List<Integer> trace, int x) {
            trace.add(13);
            return shows(trace, x) ^ 70;
        }
    }

    static class Vessel extends Thing {
        @Override int kind() {
            return 1;
        }

        @Override int speaks(Street in) {
            return super.speaks(in) + in.laws[1];
        }

        @Override int hides(Street in) {
            return super.hides(in) + 1;
        }

        @Override int shows(List<Integer> trace, int x) {
            trace.add(20);
            return super.shows(trace, x) + 8;
        }
    }

    static final class Mosaic extends Vessel {
        @Override int kind() {
            return 3;
        }

        @Override int speaks(Street in) {
            return super.speaks(in) * 2;
        }

        @Override int hides(Street in) {
            return super.hides(in) + truth;
        }

        @Override int parts(List<Integer> trace, int x) {
            trace.add(50);
            return super.parts(trace, x + 9) * 2;
        }

        @Override int sinks(List<Integer> trace, int x) {
            trace.add(51);
            return super.sinks(trace, x) - number;
        }
    }

    static class Rubbish extends Thing {
        @Override int kind() {
            return 2;
        }

        @Override int speaks(Street in) {
            return super.speaks(in) - in.laws[2];
        }

        @Override int hides(Street in) {
            return super.hides(in) - 1;
        }

        @Override int sinks(List<Integer> trace, int x) {
            trace.add(30);
            return 0 - super.sinks(trace, x);
        }

        @Override int asks(List<Integer> trace, int x) {
            trace.add(31);
            return super.asks(trace, x) - parts(trace, number);
        }
    }

    static final class Shoe extends Rubbish {
        @Override int kind() {
            return 4;
        }

        @Override int speaks(Street in) {
            return super.speaks(in) + truth;
        }

        @Override int hides(Street in) {
            return super.hides(in) + 2;
        }

        @Override int sinks(List<Integer> trace, int x) {
            trace.add(40);
            return super.sinks(trace, x) ^ 5;
        }

        @Override int shows(List<Integer> trace, int x) {
            trace.add(41);
            return super.shows(trace, x) - sinks(trace, truth);
        }
    }

    static final class Sand extends Thing {
        @Override int kind() {
            return 5;
        }

        @Override int speaks(Street in) {
            return in.year % 3 == 0 ? super.speaks(in) : 0 - truth;
        }

        @Override int hides(Street in) {
            return super.hides(in) + in.above(number).size();
        }

        @Override int asks(List<Integer> trace, int x) {
            trace.add(60);
            return super.asks(trace, x) + truth;
        }

        @Override int parts(List<Integer> trace, int x) {
            trace.add(61);
            return super.parts(trace, x) ^ sinks(trace, number);
        }
    }

    static Thing newThing(int kind, int number, int worth, int truth) {
        Thing made = kind == 0 ? new Thing() : kind == 1 ? new Vessel() : kind == 2 ? new Rubbish()
                : kind == 3 ? new Mosaic() : kind == 4 ? new Shoe() : new Sand();
        made.number = number;
        made.worth = worth;
        made.truth = truth;
        return made;
    }

    static final class Street {
        int[] laws = {3, 2, 2, 20};
        int year;
        int at;
        int opinion = 50;
        int z = 1;
        List<Thing> things = new ArrayList<>();
        /** Six lists of numbers, the lowest first. */
        List<List<Integer>> pits = new ArrayList<>();

        Street() {
            for (int i = 0; i < 6; i++) {
                pits.add(new ArrayList<>());
            }
        }

        Street copy() {
            Street c = new Street();
            c.laws = laws.clone();
            c.year = year;
            c.at = at;
            c.opinion = opinion;
            c.z = z;
            for (Thing t : things) {
                c.things.add(newThing(t.kind(), t.number, t.worth, t.truth));
            }
            for (int i = 0; i < 6; i++) {
                c.pits.get(i).addAll(pits.get(i));
            }
            return c;
        }

        int placeOf(int thing) {
            for (int i = 0; i < 6; i++) {
                if (pits.get(i).contains(thing)) {
                    return i;
                }
            }
            return 6;
        }

        List<Integer> above(int thing) {
            int place = placeOf(thing);
            if (place == 6) {
                return List.of();
            }
            List<Integer> pit = pits.get(place);
            return pit.subList(pit.indexOf(thing) + 1, pit.size());
        }

        void takeOut(int thing) {
            for (List<Integer> pit : pits) {
                pit.remove((Integer) thing);
            }
        }

        void put(int thing, int place) {
            takeOut(thing);
            pits.get(place).add(thing);
        }

        void become(int thing, int kind, int truth) {
            things.set(thing, newThing(kind, thing, things.get(thing).worth, truth));
        }

        TreeSet<Integer> lying() {
            TreeSet<Integer> all = new TreeSet<>();
            pits.forEach(all::addAll);
            return all;
        }

        int draw() {
            z = z * 1103515245 + 12345;
            return z >>> 16;
        }

        void pass() {
            int strength = laws[0];
            List<Integer> pit = pits.get(at);
            while (!pit.isEmpty()) {
                Thing top = things.get(pit.get(pit.size() - 1));
                int hides = top.hides(this);
                if (hides > strength) {
                    break;
                }
                int speaks = top.speaks(this);
                pit.remove(pit.size() - 1);
                strength -= hides;
                opinion = Math.max(0, Math.min(99, opinion + speaks));
            }
            at = at == 5 ? 0 : at + 1;
            year++;
        }

        void passDrawn() {
            if (!things.isEmpty()) {
                int one = draw() % things.size();
                int second = draw();
                if (second % 100 < laws[3] && placeOf(one) < 6) {
                    put(one, draw() % 6);
                }
            }
            pass();
        }

        int opinionBehind(int n) {
            return opinionBehind(n, s -> { });
        }

        int opinionBehind(int n, Consumer<Street> change) {
            Street c = copy();
            change.accept(c);
            for (int i = 0; i < n; i++) {
                c.pass();
            }
            return c.opinion;
        }
    }

    private static int bits(Iterable<Integer> numbers) {
        int set = 0;
        for (int i : numbers) {
            set |= 1 << i;
        }
        return set;
    }

    private Street now = new Street();
    private Street kept;
    private final List<Byte> tape = new ArrayList<>();
    private final List<int[]> rows = new ArrayList<>();
    private final Object[] sheets = new Object[4];
    /** An Integer for a thing's number, an array for a row. */
    private final Object[] shelves = new Object[4];
    private final List<Integer> trace = new ArrayList<>();

    private boolean has(int thing) {
        return thing >= 0 && thing < now.things.size();
    }

    private static boolean in(int v, int least, int most) {
        return least <= v && v <= most;
    }

    int feed(long eight, int n) {
        if (!in(n, 1, 8)) {
            return BAD;
        }
        if (tape.size() + n > 200) {
            return FULL;
        }
        for (int i = 0; i < n; i++) {
            tape.add((byte) (eight >> (8 * i)));
        }
        return tape.size();
    }

    private record Token(String text, int place) { }

    /** Where the reading of a text stopped. */
    private static final class Fault extends RuntimeException {
        private static final long serialVersionUID = 1;
        final int place;

        Fault(int place) {
            this.place = place;
        }
    }

    int street() {
        StringBuilder text = new StringBuilder();
        for (byte b : tape) {
            text.append((char) (b & 255));
        }
        tape.clear();
        List<Token> tokens = new ArrayList<>();
        Matcher m = Pattern.compile("[a-z]+|[0-9]+|[^a-z0-9 ]", Pattern.DOTALL).matcher(text);
        while (m.find()) {
            tokens.add(new Token(m.group(), m.start()));
        }
        tokens.add(new Token("", text.length()));
        try {
            Street told = readAll(tokens);
            told.z = now.z;
            now = told;
            rows.clear();
            return now.things.size();
        } catch (Fault fault) {
            return -100 - fault.place;
        }
    }

    private static Street readAll(List<Token> tokens) {
        Street told = new Street();
        List<String> kinds = List.of("thing", "vessel", "rubbish", "mosaic", "shoe", "sand");
        List<String> laws = List.of("dig", "shine", "filth", "slip");
        int p = 0;
        while (!tokens.get(p).text.isEmpty()) {
            Token first = tokens.get(p++);
            if (kinds.contains(first.text)) {
                if (told.things.size() == 8) {
                    throw new Fault(first.place);
                }
                need(tokens.get(p++), "in");
                int pit = number(tokens.get(p++), 5);
                int worth = 10;
                int truth = 0;
                if (tokens.get(p).text.equals("worth")) {
                    worth = number(tokens.get(p + 1), 99);
                    p += 2;
                }
                if (tokens.get(p).text.equals("truth")) {
                    truth = number(tokens.get(p + 1), 9);
                    p += 2;
                }
                int number = told.things.size();
                told.things.add(newThing(kinds.indexOf(first.text), number, worth, truth));
                told.put(number, pit);
            } else if (laws.contains(first.text)) {
                int law = laws.indexOf(first.text);
                told.laws[law] = number(tokens.get(p++), law == 3 ? 99 : 9);
            } else if (first.text.equals("reader")) {
                told.at = number(tokens.get(p++), 5);
            } else if (first.text.equals("opinion")) {
                told.opinion = number(tokens.get(p++), 99);
            } else {
                throw new Fault(first.place);
            }
            need(tokens.get(p++), ";");
        }
        return told;
    }

    private static void need(Token token, String text) {
        if (!token.text.equals(text)) {
            throw new Fault(token.place);
        }
    }

    private static int number(Token token, int most) {
        if (!token.text.matches("[0-9]{1,3}") || Integer.parseInt(token.text) > most) {
            throw new Fault(token.place);
        }
        return Integer.parseInt(token.text);
    }

    int set(int law, int v) {
        if (!in(law, 0, 3) || !in(v, 0, law == 3 ? 99 : 9)) {
            return BAD;
        }
        int was = now.laws[law];
        now.laws[law] = v;
        return was;
    }

    int lawOf(int law) {
        return in(law, 0, 3) ? now.laws[law] : BAD;
    }

    int thing(int kind, int worth, int truth, int pit) {
        if (!in(kind, 0, 5) || !in(worth, 0, 99) || !in(truth, 0, 9) || !in(pit, 0, 5)) {
            return BAD;
        }
        int number = now.things.size();
        if (number == 8) {
            return FULL;
        }
        now.things.add(newThing(kind, number, worth, truth));
        now.put(number, pit);
        return number;
    }

    int of(int thing, int what) {
        if (!has(thing) || !in(what, 0, 4)) {
            return BAD;
        }
        Thing t = now.things.get(thing);
        return new int[] {t.kind(), t.worth, t.truth, now.placeOf(thing), now.above(thing).size()}[what];
    }

    int does(int thing, int what) {
        if (!has(thing) || !in(what, 0, 1)) {
            return BAD;
        }
        Thing t = now.things.get(thing);
        return 1000 + (what == 0 ? t.speaks(now) : t.hides(now));
    }

    int mind(int thing, int kind, int truth) {
        if (!has(thing) || !in(kind, 0, 5) || !in(truth, 0, 9)) {
            return BAD;
        }
        int was = now.things.get(thing).kind();
        now.become(thing, kind, truth);
        return was;
    }

    int value(int thing, int v) {
        if (!has(thing) || !in(v, 0, 99)) {
            return BAD;
        }
        int was = now.things.get(thing).worth;
        now.things.get(thing).worth = v;
        return was;
    }

    int lay(int thing, int pit) {
        if (!has(thing) || !in(pit, 0, 5)) {
            return BAD;
        }
        int was = now.placeOf(thing);
        now.put(thing, pit);
        return was;
    }

    int take(int thing) {
        if (!has(thing)) {
            return BAD;
        }
        if (now.placeOf(thing) == 6) {
            return NONE;
        }
        now.takeOut(thing);
        return now.lying().size();
    }

    int bring(int pit) {
        if (!in(pit, 0, 5)) {
            return BAD;
        }
        int was = now.at;
        now.at = pit;
        return was;
    }

    int think(int v) {
        if (!in(v, 0, 99)) {
            return BAD;
        }
        int was = now.opinion;
        now.opinion = v;
        return was;
    }

    int pit(int pit, int what) {
        if (!in(pit, 0, 5) || !in(what, 0, 1)) {
            return BAD;
        }
        List<Integer> all = now.pits.get(pit);
        return what == 0 ? bits(all) : all.isEmpty() ? 8 : all.get(all.size() - 1);
    }

    int years(int n) {
        if (!in(n, 1, 60)) {
            return BAD;
        }
        for (int i = 0; i < n; i++) {
            now.pass();
        }
        return now.opinion;
    }

    int seed(int v) {
        int was = now.z;
        now.z = v;
        return was;
    }

    int year() {
        now.passDrawn();
        return now.opinion;
    }

    int luck(int n) {
        if (!in(n, 1, 30)) {
            return BAD;
        }
        int plain = now.opinionBehind(1);
        int z = now.z;
        int many = 0;
        for (int i = 0; i < n; i++) {
            Street c = now.copy();
            c.z = z;
            c.passDrawn();
            z = c.z;
            many += c.opinion > plain ? 1 : 0;
        }
        return many;
    }

    int state(int what) {
        switch (what) {
            case 0: return now.year;
            case 1: return now.opinion;
            case 2: return now.at;
            case 3: return bits(now.lying());
            case 4: return now.lying().stream().mapToInt(i -> now.things.get(i).worth).sum();
            case 5: return cover();
            default: return BAD;
        }
    }

    private int kindsIn(int pits) {
        int kinds = 0;
        for (int i : now.lying()) {
            if ((pits & 1 << now.placeOf(i)) != 0) {
                kinds |= 1 << now.things.get(i).kind();
            }
        }
        return kinds;
    }

    private int cover() {
        for (int size = 0; size <= 6; size++) {
            for (int pits = 0; pits < 64; pits++) {
                if (Integer.bitCount(pits) == size && kindsIn(pits) == kindsIn(63)) {
                    return pits;
                }
            }
        }
        throw new IllegalStateException("all pits cover all kinds");
    }

    int thought(int n) {
        return in(n, 0, 60) ? now.opinionBehind(n) : BAD;
    }

    private interface Seen {
        boolean in(Street street);
    }

    private int behindFewest(Seen seen) {
        Street c = now.copy();
        for (int n = 0; n <= 60; n++, c.pass()) {
            if (seen.in(c)) {
                return n;
            }
        }
        return NONE;
    }

    int dug(int thing) {
        return has(thing) ? behindFewest(c -> c.placeOf(thing) == 6) : BAD;
    }

    int empty() {
        return behindFewest(c -> c.lying().isEmpty());
    }

    int praised(int v) {
        return in(v, 0, 99) ? behindFewest(c -> c.opinion >= v) : BAD;
    }

    private interface Change {
        void make(Street street, int choice);
    }

    private int best(int n, Change change) {
        int best = -1;
        for (int i = 5; i >= 0; i--) {
            int choice = i;
            int than = best;
            if (best < 0 || now.opinionBehind(n, s -> change.make(s, choice))
                    >= now.opinionBehind(n, s -> change.make(s, than))) {
                best = i;
            }
        }
        return best;
    }

    int pitFor(int thing, int n) {
        if (!has(thing) || !in(n, 1, 20)) {
            return BAD;
        }
        return now.placeOf(thing) == 6 ? NONE : best(n, (s, p) -> s.put(thing, p));
    }

    int kindFor(int thing, int n) {
        if (!has(thing) || !in(n, 1, 20)) {
            return BAD;
        }
        int truth = now.things.get(thing).truth;
        return now.placeOf(thing) == 6 ? NONE : best(n, (s, k) -> s.become(thing, k, truth));
    }

    int worthFor(int thing, int n, int v) {
        if (!has(thing) || !in(n, 1, 20) || !in(v, 0, 99)) {
            return BAD;
        }
        for (int w = 0; w <= 99 && now.placeOf(thing) != 6; w++) {
            int worth = w;
            if (now.opinionBehind(n, s -> s.things.get(thing).worth = worth) >= v) {
                return w;
            }
        }
        return NONE;
    }

    int beginFor(int n) {
        return in(n, 1, 20) ? best(n, (s, p) -> s.at = p) : BAD;
    }

    int awayFor(int n, int v) {
        if (!in(n, 1, 20) || !in(v, 0, 99)) {
            return BAD;
        }
        int lying = bits(now.lying());
        for (int size = 0; size <= 8; size++) {
            for (int set = 0; set < 256; set++) {
                if (Integer.bitCount(set) == size && (set | lying) == lying
                        && opinionWithout(set, n) >= v) {
                    return set;
                }
            }
        }
        return NONE;
    }

    private int opinionWithout(int set, int n) {
        return now.opinionBehind(n, s -> {
            for (int i = 0; i < 8; i++) {
                if ((set & 1 << i) != 0) {
                    s.takeOut(i);
                }
            }
        });
    }

    int above(int thing) {
        return has(thing) ? bits(now.above(thing)) : BAD;
    }

    private static int sortOf(Object row) {
        return row instanceof byte[] ? 0 : row instanceof short[] ? 1 : row instanceof int[] ? 2
                : row instanceof long[] ? 3 : -1;
    }

    private static int sizeOf(Object row) {
        return row == null ? 0 : java.lang.reflect.Array.getLength(row);
    }

    private static long numberOf(Object row, int i) {
        return java.lang.reflect.Array.getLong(row, i);
    }

    int fits(int sheet, int thing, int what) {
        if (!in(sheet, 0, 3) || !has(thing) || !in(what, 0, 1)) {
            return BAD;
        }
        Object row = sheets[sheet];
        if (row == null) {
            return -11;
        }
        TreeSet<Integer> fit = new TreeSet<>();
        for (int w = 0; w <= 99; w++) {
            Street c = now.copy();
            c.things.get(thing).worth = w;
            boolean fits = true;
            for (int i = 0; i < sizeOf(row); i++) {
                c.pass();
                fits &= numberOf(row, i) == -1 || numberOf(row, i) == c.opinion;
            }
            if (fits) {
                fit.add(w);
            }
        }
        return what == 0 ? fit.size() : fit.isEmpty() ? NONE : fit.first();
    }

    private static long partOf(BigInteger over, BigInteger under, int part) {
        return (part == 0 ? over : under).divide(over.gcd(under)).longValueExact();
    }

    long odds(int n, int k, int part) {
        if (!in(n, 0, 8) || !in(k, 0, n) || !in(part, 0, 1)) {
            return BAD;
        }
        BigInteger over = BigInteger.ZERO;
        for (int slips = 0; slips < 1 << n; slips++) {
            BigInteger one = BigInteger.ONE;
            for (int i = 0; i < n; i++) {
                int of = (slips & 1 << i) != 0 ? now.laws[3] : 100 - now.laws[3];
                one = one.multiply(BigInteger.valueOf(of));
            }
            over = Integer.bitCount(slips) == k ? over.add(one) : over;
        }
        return partOf(over, BigInteger.valueOf(100).pow(n), part);
    }

    long hope(int n, int part) {
        if (!in(n, 0, 99) || !in(part, 0, 1)) {
            return BAD;
        }
        return partOf(BigInteger.valueOf(n * now.laws[3]), BigInteger.valueOf(100), part);
    }

    private List<int[]> rowsOf(int thing, int n) {
        List<int[]> told = new ArrayList<>();
        Street c = now.copy();
        for (int i = 0; i < n; i++) {
            c.pass();
            told.add(new int[] {c.placeOf(thing) < 6 ? 1 : 0, c.opinion, c.at});
        }
        return told;
    }

    int prove(int thing, int n) {
        if (!has(thing) || !in(n, 1, 10)) {
            return BAD;
        }
        rows.clear();
        rows.addAll(rowsOf(thing, n));
        return n;
    }

    int row(int i, int what) {
        return in(i, 0, rows.size() - 1) && in(what, 0, 2) ? rows.get(i)[what] : -9;
    }

    int alterRow(int i, int what, int v) {
        int was = row(i, what);
        if (in(i, 0, rows.size() - 1) && in(what, 0, 2)) {
            rows.get(i)[what] = v;
        }
        return was;
    }

    int judge(int thing) {
        if (!has(thing)) {
            return BAD;
        }
        List<int[]> must = rowsOf(thing, rows.size());
        for (int i = 0; i < rows.size(); i++) {
            if (!java.util.Arrays.equals(rows.get(i), must.get(i))) {
                return i + 1;
            }
        }
        return 0;
    }

    int minds(int sheet, int i, int thing, int n) {
        if (!in(sheet, 0, 3) || !has(thing) || !in(n, 0, 8) || thing + n > now.things.size()) {
            return BAD;
        }
        Object row = sheets[sheet];
        if (row == null) {
            return -11;
        }
        if (!(row instanceof byte[] bytes)) {
            return -13;
        }
        if (!in(i, 0, bytes.length) || i + n > bytes.length) {
            return -12;
        }
        for (int k = 0; k < n; k++) {
            now.things.get(thing + k).worth = Math.max(0, Math.min(99, bytes[i + k]));
        }
        return n;
    }

    int sheet(int sheet, int sort, int n) {
        if (!in(sheet, 0, 3) || !in(sort, -1, 3) || sort != -1 && n > 40) {
            return BAD;
        }
        try {
            sheets[sheet] = sort == -1 ? null : sort == 0 ? new byte[n] : sort == 1 ? new short[n]
                    : sort == 2 ? new int[n] : new long[n];
        } catch (NegativeArraySizeException e) {
            return -14;
        }
        return 1;
    }

    int put(int sheet, int i, int v) {
        if (!in(sheet, 0, 3)) {
            return BAD;
        }
        try {
            switch (sortOf(sheets[sheet])) {
                case 0: ((byte[]) sheets[sheet])[i] = (byte) v; break;
                case 1: ((short[]) sheets[sheet])[i] = (short) v; break;
                case 2: ((int[]) sheets[sheet])[i] = v; break;
                case 3: ((long[]) sheets[sheet])[i] = v; break;
                default: return -11;
            }
        } catch (ArrayIndexOutOfBoundsException e) {
            return -12;
        }
        return 1;
    }

    int item(int sheet, int sort, int i) {
        if (!in(sheet, 0, 3) || !in(sort, 0, 3)) {
            return BAD;
        }
        Object row = sheets[sheet];
        try {
            return row == null ? -11
                    : sort == 0 ? ((byte[]) row)[i] : sort == 1 ? ((short[]) row)[i]
                    : sort == 2 ? ((int[]) row)[i] : (int) ((long[]) row)[i];
        } catch (ClassCastException e) {
            return -13;
        } catch (ArrayIndexOutOfBoundsException e) {
            return -12;
        }
    }

    int shelf(int shelf, int what, int n) {
        if (!in(shelf, 0, 3) || !in(what, 0, 2) || what == 0 && !has(n) || what == 1 && !in(n, 0, 3)) {
            return BAD;
        }
        shelves[shelf] = what == 0 ? (Object) n : what == 1 ? sheets[n] : null;
        return 1;
    }

    private Object heldBy(int shelf) {
        return shelves[shelf] instanceof Integer n ? has(n) ? now.things.get(n) : null : shelves[shelf];
    }

    int taken(int shelf, int as) {
        if (!in(shelf, 0, 3) || !in(as, 0, 5) && !in(as, 10, 13)) {
            return BAD;
        }
        Object held = heldBy(shelf);
        if (held == null) {
            return -11;
        }
        if (as >= 10) {
            return sortOf(held) == as - 10 ? sizeOf(held) : -13;
        }
        return newThing(as, 0, 0, 0).getClass().isInstance(held) ? ((Thing) held).number : -13;
    }

    int act(int shelf, int act, int x) {
        trace.clear();
        if (!in(shelf, 0, 3) || !in(act, 0, 3) || !(heldBy(shelf) instanceof Thing t)) {
            return 0;
        }
        try {
            return act == 0 ? t.sinks(trace, x) : act == 1 ? t.shows(trace, x)
                    : act == 2 ? t.parts(trace, x) : t.asks(trace, x);
        } catch (ArithmeticException e) {
            return -15;
        }
    }

    int trace(int i) {
        return in(i, 0, Math.min(30, trace.size()) - 1) ? trace.get(i) : NONE;
    }

    int many(int what) {
        int things = now.things.size();
        int lie = now.lying().size();
        int pits = (int) now.pits.stream().filter(pit -> !pit.isEmpty()).count();
        int[] all = {things, lie, things - lie, pits, rows.size(), tape.size(), Math.min(30, trace.size())};
        return in(what, 0, 6) ? all[what] : BAD;
    }

    int keep() {
        kept = now.copy();
        return 1;
    }

    int again() {
        if (kept == null) {
            return NONE;
        }
        now = kept.copy();
        return now.things.size();
    }
}
