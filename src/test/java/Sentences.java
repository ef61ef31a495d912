import java.util.List;
import java.util.function.Consumer;
import java.util.function.ToLongFunction;

/**
 * Tests of the document's sentences, each quoted under the promise (or other part) that it belongs to
 * and given a new object x of its own.
 */
abstract class Sentences {
    static final int BAD = SampleLayers.BAD, FULL = SampleLayers.FULL, NONE = SampleLayers.NONE;
    static final int NOTHING = -11, OUTSIDE = -12, ANOTHER = -13, BELOW_NONE = -14, PARTED_BY_NONE = -15;
    static final int LOW = Integer.MIN_VALUE, HIGH = Integer.MAX_VALUE;
    static final int DIG = 0, SHINE = 1, FILTH = 2, SLIP = 3;
    static final int THING = 0, VESSEL = 1, RUBBISH = 2, MOSAIC = 3, SHOE = 4, SAND = 5;
    static final int FOUND = 6;
    static final int BYTES = 0, SHORTS = 1, INTS = 2, LONGS = 3, MISSING = -1;
    static final int SINKS = 0, SHOWS = 1, PARTS = 2, ASKS = 3;
    static final String CHANGES_NOTHING =
        "Answers below 0, where not told otherwise, are refusals; such a call changes nothing";

    private final Document document;
    private final Check check;
    /** A promise's number, or another part of the document. */
    private int part;
    private String words;
    SampleLayers x;

    Sentences(Document document, Check check) {
        this.document = document;
        this.check = check;
    }

    abstract void all();

    /** One sentence: it stands in the document, and its test asks for something. */
    final void says(int ofPart, String itsWords, Runnable test) {
        part = ofPart;
        words = itsWords;
        x = new SampleLayers();
        holds("the document says so", document.quote(part, words));
        int before = check.answers();
        test.run();
        holds("it is tested", check.answers() > before);
    }

    final void due(String call, long got, long want) {
        check.due(Document.nameOf(part) + " \"" + words + "\": " + call, got, want);
    }

    final void holds(String what, boolean isSo) {
        due(what, isSo ? 1 : 0, 1);
    }

    /** The call answers so, and leaves all of the street of many things as it was. */
    final void unchanged(String call, long want, ToLongFunction<SampleLayers> asked) {
        unchanged(call, want, Sentences::makeRich, asked);
    }

    final void unchanged(String call, long want, Consumer<SampleLayers> made,
            ToLongFunction<SampleLayers> asked) {
        SampleLayers one = new SampleLayers();
        made.accept(one);
        due(call, asked.applyAsLong(one), want);
        sameAs(call + " changes nothing", made, one);
    }

    /** All that can be seen of one is as in an object that is made so. */
    final void sameAs(String what, Consumer<SampleLayers> made, SampleLayers one) {
        SampleLayers other = new SampleLayers();
        made.accept(other);
        List<String> got = Probe.answers(one);
        List<String> want = Probe.answers(other);
        for (int i = 0; i < Math.min(got.size(), want.size()); i++) {
            if (!got.get(i).equals(want.get(i))) {
                holds(what + ", but " + got.get(i) + ", not " + want.get(i), false);
                return;
            }
        }
        due(what, got.size(), want.size());
    }

    /** A refusal: it answers so, and changes nothing. */
    final void refused(String call, long want, ToLongFunction<SampleLayers> asked) {
        refused(call, want, Sentences::makeRich, asked);
    }

    final void refused(String call, long want, Consumer<SampleLayers> made,
            ToLongFunction<SampleLayers> asked) {
        holds("the document says that it changes nothing", document.quote(part, CHANGES_NOTHING));
        unchanged(call, want, made, asked);
    }

    /** A street in which all is other than at first: six things, the last but one FOUND. */
    static void makeRich(SampleLayers x) {
        x.set(DIG, 4);
        x.set(SHINE, 5);
        x.set(FILTH, 3);
        x.set(SLIP, 40);
        x.thing(VESSEL, 35, 2, 1);
        x.thing(SAND, 47, 6, 1);
        x.thing(MOSAIC, 81, 3, 4);
        x.thing(SHOE, 12, 9, 1);
        x.thing(RUBBISH, 66, 1, 3);
        x.thing(THING, 99, 4, 2);
        x.take(4);
        x.years(1);
        x.seed(4711);
        x.think(37);
        x.keep();
        x.value(0, 53);
        x.lay(0, 1);
        x.bring(3);
        x.think(41);
        x.seed(-99);
        x.mind(1, SAND, 5);
        x.prove(2, 3);
        x.alterRow(1, 1, 7);
        makeSheets(x);
        x.shelf(0, 0, 3);
        x.shelf(1, 1, 1);
        x.shelf(3, 0, 5);
        x.act(0, SHOWS, 5);
        Tapes.feed(x, "dig 7;");
    }

    /** Five bytes, three shorts, two longs; the last one is missing. */
    private static void makeSheets(SampleLayers x) {
        x.sheet(0, BYTES, 5);
        x.put(0, 0, -1);
        x.put(0, 1, 44);
        x.put(0, 2, -5);
        x.put(0, 3, 120);
        x.sheet(1, SHORTS, 3);
        x.put(1, 2, 300);
        x.sheet(2, LONGS, 2);
        x.put(2, 0, 77);
    }

    /** z behind one draw. */
    static int drawn(int z) {
        return z * 1103515245 + 12345;
    }

    /** What the draw that made this z leaves by a number. */
    static int left(int z, int by) {
        return (z >>> 16) % by;
    }
}
