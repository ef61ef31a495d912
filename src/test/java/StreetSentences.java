/** Promises 1 to 15: what there is at first, the laws, the things, and what changes them. */
final class StreetSentences extends Sentences {
    private static final int[] EXTREMES = {LOW, LOW + 1, -1000, -1, HIGH - 1, HIGH};

    StreetSentences(Document document, Check check) {
        super(document, check);
    }

    @Override
    void all() {
        atFirst();
        laws();
        thingsThatCome();
        whatThingsAre();
        whatThingsSpeak();
        whatThingsHide();
        minds();
        values();
        layings();
        takings();
        reader();
        pits();
    }

    private void atFirst() {
        says(1, "No THINGS", () -> {
            due("many(0)", x.many(0), 0);
            due("state(3)", x.state(3), 0);
            for (int pit = 0; pit < 6; pit++) {
                due("pit(" + pit + ", 0)", x.pit(pit, 0), 0);
            }
            due("of(0, 0)", x.of(0, 0), BAD);
        });
        says(1, "nothing is kept", () -> due("again()", x.again(), NONE));
        says(1, "YEAR (0 at first)", () -> due("state(0)", x.state(0), 0));
        says(1, "THE READER is AT one (0 at first)", () -> due("state(2)", x.state(2), 0));
        says(1, "50 at first", () -> due("state(1)", x.state(1), 50));
        says(1, "3 at first", () -> due("lawOf(0)", x.lawOf(DIG), 3));
        says(1, "1 SHINE (0 to 9; 2)", () -> due("lawOf(1)", x.lawOf(SHINE), 2));
        says(1, "2 FILTH (0 to 9; 2)", () -> due("lawOf(2)", x.lawOf(FILTH), 2));
        says(1, "3 SLIP (0 to 99 of a hundred; 20)", () -> due("lawOf(3)", x.lawOf(SLIP), 20));
        says(1, "1 at first", () -> due("seed(0)", x.seed(0), 1));
        says(1, "or missing (at first)", () -> {
            for (int sheet = 0; sheet < 4; sheet++) {
                due("put(" + sheet + ", 0, 0)", x.put(sheet, 0, 0), NOTHING);
            }
        });
        says(1, "or nothing (at first)", () -> {
            for (int shelf = 0; shelf < 4; shelf++) {
                due("taken(" + shelf + ", 0)", x.taken(shelf, 0), NOTHING);
            }
        });
        says(1, "nothing is kept", () -> {
            for (int what = 0; what <= 6; what++) {
                due("many(" + what + ")", x.many(what), 0);
            }
        });
        says(1, "No THINGS", () -> {
            makeRich(new SampleLayers());
            sameAs("another object has nothing of this one", y -> { }, x);
        });
        says(1, "BAD (-1)", () -> due("BAD", SampleLayers.BAD, -1));
        says(1, "FULL (-2)", () -> due("FULL", SampleLayers.FULL, -2));
        says(1, "NONE (-3)", () -> due("NONE", SampleLayers.NONE, -3));
    }

    private static int mostOf(int law) {
        return law == SLIP ? 99 : 9;
    }

    private void laws() {
        says(4, "A LAW becomes v: what it was", () -> {
            int[] first = {3, 2, 2, 20};
            for (int law = 0; law < 4; law++) {
                due("set(" + law + ", 1)", x.set(law, 1), first[law]);
            }
            for (int law = 0; law < 4; law++) {
                due("set(" + law + ", 4)", x.set(law, 4), 1);
                due("lawOf(" + law + ")", x.lawOf(law), 4);
            }
        });
        says(4, "0 DIG (0 to 9; 3 at first)", () -> lawIsWithin(DIG, 9));
        says(4, "1 SHINE (0 to 9; 2)", () -> lawIsWithin(SHINE, 9));
        says(4, "2 FILTH (0 to 9; 2)", () -> lawIsWithin(FILTH, 9));
        says(4, "3 SLIP (0 to 99 of a hundred; 20)", () -> lawIsWithin(SLIP, 99));
        says(4, "BAD", () -> {
            for (int law : new int[] {LOW, -1, 4, HIGH}) {
                refused("set(" + law + ", 1)", BAD, y -> y.set(law, 1));
            }
        });
        says(5, "A LAW", () -> {
            for (int law = 0; law < 4; law++) {
                x.set(law, law + 5);
            }
            for (int law = 0; law < 4; law++) {
                due("lawOf(" + law + ")", x.lawOf(law), law + 5);
            }
        });
        says(5, "BAD", () -> {
            for (int law : new int[] {LOW, -1, 4, HIGH}) {
                refused("lawOf(" + law + ")", BAD, y -> y.lawOf(law));
            }
        });
        says(5, "LAWS:", () -> {
            x.set(DIG, 9);
            for (int law = 1; law < 4; law++) {
                due("lawOf(" + law + ") is its own", x.lawOf(law), law == SLIP ? 20 : 2);
            }
        });
    }

    private void lawIsWithin(int law, int most) {
        x.set(law, 5);
        due("set(" + law + ", " + most + ")", x.set(law, most), 5);
        due("is " + most, x.lawOf(law), most);
        due("set(" + law + ", 0)", x.set(law, 0), most);
        due("is 0", x.lawOf(law), 0);
        for (int v : new int[] {LOW, -1, most + 1, HIGH}) {
            refused("set(" + law + ", " + v + ")", BAD, y -> y.set(law, v));
        }
    }

    private void thingsThatCome() {
        says(6, "One more in a PIT, above all there: its number", () -> {
            due("the first one", x.thing(THING, 1, 1, 4), 0);
            due("the second one", x.thing(SAND, 2, 2, 4), 1);
            due("another pit", x.thing(SHOE, 3, 3, 3), 2);
            due("above the first one", x.above(0), 2);
            due("uppermost", x.pit(4, 1), 1);
            due("above the second one", x.above(1), 0);
        });
        says(6, "THINGS, 8 at most, numbered as they come", () -> {
            for (int i = 0; i < 8; i++) {
                due("one more", x.thing(i % 6, 10, 0, i / 2), i);
            }
            due("a ninth", x.thing(THING, 0, 0, 0), FULL);
            due("eight", x.many(0), 8);
        });
        says(6, "each of a KIND: 0 thing; 1 vessel, 2 rubbish, 5 sand (under thing); 3 mosaic (under "
            + "vessel); 4 shoe (under rubbish)", () -> {
                for (int kind = 0; kind < 6; kind++) {
                    due("kind " + kind, x.thing(kind, 0, 0, 0), kind);
                    due("its kind", x.of(kind, 0), kind);
                }
                refused("kind -1", BAD, y -> y.thing(-1, 0, 0, 0));
                refused("kind 6", BAD, y -> y.thing(6, 0, 0, 0));
            });
        says(6, "with a WORTH (0 to 99)", () -> {
            due("0", x.thing(THING, 0, 5, 0), 0);
            due("99", x.thing(THING, 99, 5, 0), 1);
            due("is 0", x.of(0, 1), 0);
            due("is 99", x.of(1, 1), 99);
            refused("-1", BAD, y -> y.thing(0, -1, 0, 0));
            refused("100", BAD, y -> y.thing(0, 100, 0, 0));
        });
        says(6, "a TRUTH (0 to 9)", () -> {
            due("0", x.thing(THING, 50, 0, 0), 0);
            due("9", x.thing(THING, 50, 9, 0), 1);
            due("is 0", x.of(0, 2), 0);
            due("is 9", x.of(1, 2), 9);
            refused("-1", BAD, y -> y.thing(0, 0, -1, 0));
            refused("10", BAD, y -> y.thing(0, 0, 10, 0));
        });
        says(6, "in a PIT, above all that is in it as it comes", () -> {
            due("0", x.thing(THING, 0, 0, 0), 0);
            due("5", x.thing(THING, 0, 0, 5), 1);
            due("is in 0", x.pit(0, 0), 1);
            due("is in 5", x.pit(5, 0), 2);
            refused("-1", BAD, y -> y.thing(0, 0, 0, -1));
            refused("6, where the found ones are", BAD, y -> y.thing(0, 0, 0, 6));
        });
        comingRefused();
    }

    private void comingRefused() {
        says(6, "BAD", () -> {
            for (int v : EXTREMES) {
                refused("kind " + v, BAD, y -> y.thing(v, 1, 1, 1));
                refused("worth " + v, BAD, y -> y.thing(1, v, 1, 1));
                refused("truth " + v, BAD, y -> y.thing(1, 1, v, 1));
                refused("pit " + v, BAD, y -> y.thing(1, 1, 1, v));
            }
        });
        says(6, "FULL", () -> {
            refused("a ninth", FULL, StreetSentences::makeFull, y -> y.thing(MOSAIC, 99, 9, 5));
            makeFull(x);
            for (int i = 0; i < 8; i++) {
                x.take(i);
            }
            due("a ninth, though all are found", x.thing(THING, 0, 0, 0), FULL);
            due("all found", x.many(2), 8);
        });
        says(6, "of several the first named", () ->
            refused("BAD before FULL", BAD, StreetSentences::makeFull, y -> y.thing(6, 0, 0, 0)));
        says(6, "BAD (-1) there is no such thing, or a number is not as told", () -> {
            makeFull(x);
            due("worth", x.thing(0, 100, 0, 0), BAD);
            due("truth", x.thing(0, 0, 10, 0), BAD);
            due("pit", x.thing(0, 0, 0, 6), BAD);
        });
    }

    private static void makeFull(SampleLayers x) {
        for (int i = 0; i < 8; i++) {
            x.thing(i % 6, 10 * i, i, i % 6);
        }
    }

    private void whatThingsAre() {
        says(7, "Of one: what = 0 KIND, 1 WORTH, 2 TRUTH", () -> {
            x.thing(THING, 8, 7, 5);
            x.thing(SHOE, 21, 9, 2);
            due("KIND", x.of(1, 0), SHOE);
            due("WORTH", x.of(1, 1), 21);
            due("TRUTH", x.of(1, 2), 9);
            due("KIND of the other", x.of(0, 0), THING);
            due("WORTH of the other", x.of(0, 1), 8);
            due("TRUTH of the other", x.of(0, 2), 7);
        });
        says(7, "3 its PIT (6: it is FOUND)", () -> {
            x.thing(THING, 0, 0, 5);
            x.thing(THING, 0, 0, 0);
            due("PIT 5", x.of(0, 3), 5);
            due("PIT 0", x.of(1, 3), 0);
            x.take(1);
            due("FOUND", x.of(1, 3), FOUND);
        });
        says(7, "4 how many LIE above it there (0, if it is FOUND)", () -> {
            makeFull(x);
            for (int i = 0; i < 8; i++) {
                x.lay(i, 2);
            }
            for (int i = 0; i < 8; i++) {
                due("above " + i, x.of(i, 4), 7 - i);
            }
            x.take(4);
            due("one of them found", x.of(0, 4), 6);
            due("a found one", x.of(4, 4), 0);
            due("above those over it as before", x.of(5, 4), 2);
            x.lay(7, 1);
            due("one of them elsewhere", x.of(0, 4), 5);
        });
        says(7, "BAD", () -> {
            for (int what : new int[] {LOW, -1, 5, 6, HIGH}) {
                refused("what " + what, BAD, y -> y.of(0, what));
            }
            for (int thing : new int[] {LOW, -1, 6, 7, 8, HIGH}) {
                refused("thing " + thing, BAD, y -> y.of(thing, 0));
            }
        });
    }

    private int speaks(int kind, int worth, int truth) {
        x.mind(0, kind, truth);
        x.value(0, worth);
        return x.does(0, 0) - 1000;
    }

    private void whatThingsSpeak() {
        says(8, "1000, and what one SPEAKS (what 0)", () -> {
            x.thing(THING, 0, 0, 0);
            due("speaks 0", x.does(0, 0), 1000);
        });
        says(8, "SPEAKS: thing: a tenth of WORTH (cut)", () -> {
            x.thing(THING, 0, 0, 0);
            int[] worths = {0, 9, 10, 19, 20, 55, 89, 90, 99};
            int[] tenths = {0, 0, 1, 1, 2, 5, 8, 9, 9};
            for (int i = 0; i < worths.length; i++) {
                due("worth " + worths[i], speaks(THING, worths[i], 9), tenths[i]);
            }
        });
        says(8, "vessel: as thing, and SHINE", () -> speaksBySigns(VESSEL, SHINE, new int[] {0, 9, 9, 18}));
        says(8, "mosaic: as vessel, twice that", () ->
            speaksBySigns(MOSAIC, SHINE, new int[] {0, 18, 18, 36}));
        says(8, "rubbish: as thing, less FILTH (so it may be below 0)", () ->
            speaksBySigns(RUBBISH, FILTH, new int[] {0, 9, -9, 0}));
        says(8, "shoe: as rubbish, and TRUTH", () -> {
            speaksBySigns(SHOE, FILTH, new int[] {7, 16, -2, 7});
            due("TRUTH 0", speaks(SHOE, 0, 0), -9);
            due("TRUTH 9", speaks(SHOE, 0, 9), 0);
        });
        says(8, "sand: as thing, in YEARS whose rest by 3 is 0; else 0 less TRUTH", () -> {
            x.thing(SAND, 99, 9, 0);
            x.set(DIG, 0);
            int[] want = {9, -9, -9, 9, -9, -9, 9};
            for (int year = 0; year < 7; year++) {
                due("YEAR " + year, x.does(0, 0), 1000 + want[year]);
                x.mind(0, SAND, 0);
                due("of TRUTH 0, YEAR " + year, x.does(0, 0), year % 3 == 0 ? 1009 : 1000);
                x.mind(0, SAND, 9);
                x.years(1);
            }
        });
        says(8, "(whether it is FOUND or not)", () -> {
            for (int kind = 0; kind < 6; kind++) {
                x.thing(kind, 47, 3, 0);
                int lying = x.does(kind, 0);
                x.take(kind);
                due("kind " + kind + " speaks as before", x.does(kind, 0), lying);
            }
        });
        says(8, "BAD", () -> {
            for (int what : new int[] {LOW, -1, 2, HIGH}) {
                refused("what " + what, BAD, y -> y.does(0, what));
            }
            for (int thing : new int[] {LOW, -1, 6, 8, HIGH}) {
                refused("speaks " + thing, BAD, y -> y.does(thing, 0));
                refused("hides " + thing, BAD, y -> y.does(thing, 1));
            }
        });
    }

    /** Of worths 0 and 99 with the law 0, and then with the law 9; the truth is 7. */
    private void speaksBySigns(int kind, int law, int[] want) {
        x.thing(THING, 0, 0, 0);
        for (int i = 0; i < 4; i++) {
            x.set(SHINE, law == SHINE ? i / 2 * 9 : 5);
            x.set(FILTH, law == FILTH ? i / 2 * 9 : 5);
            due("worth " + i % 2 * 99 + ", law " + i / 2 * 9, speaks(kind, i % 2 * 99, 7), want[i]);
        }
    }

    private void hides(int kind, int truth, int want) {
        x.mind(0, kind, truth);
        due("TRUTH " + truth, x.does(0, 1), 1000 + want);
    }

    private void whatThingsHide() {
        says(8, "HIDES (1) now", () -> {
            x.thing(THING, 99, 9, 0);
            due("what 1", x.does(0, 1), 1001);
        });
        says(8, "HIDES: thing: 1", () -> hidesOf(THING, 1, 1));
        says(8, "vessel: as thing, and 1", () -> hidesOf(VESSEL, 2, 2));
        says(8, "mosaic: as vessel, and TRUTH", () -> hidesOf(MOSAIC, 2, 11));
        says(8, "rubbish: as thing, less 1", () -> hidesOf(RUBBISH, 0, 0));
        says(8, "shoe: as rubbish, and 2", () -> hidesOf(SHOE, 2, 2));
        says(8, "sand: as thing, and how many LIE above it in its PIT", () -> {
            makeFull(x);
            x.mind(0, SAND, 9);
            for (int i = 0; i < 8; i++) {
                x.lay(i, 2);
            }
            hides(SAND, 9, 8);
            hides(SAND, 0, 8);
            x.take(5);
            due("one of them found", x.does(0, 1), 1007);
            x.lay(6, 3);
            due("one of them elsewhere", x.does(0, 1), 1006);
            x.take(0);
            due("a found one", x.does(0, 1), 1001);
            x.lay(0, 2);
            due("above all", x.does(0, 1), 1001);
        });
        says(8, "(whether it is FOUND or not)", () -> {
            int[] want = {1, 2, 0, 5, 2, 1};
            for (int kind = 0; kind < 6; kind++) {
                x.thing(kind, 47, 3, 0);
                x.take(kind);
                due("kind " + kind + " hides", x.does(kind, 1), 1000 + want[kind]);
            }
        });
    }

    private void hidesOf(int kind, int ofNone, int ofNine) {
        x.thing(THING, 99, 0, 0);
        x.thing(THING, 99, 0, 0);
        hides(kind, 0, ofNone);
        hides(kind, 9, ofNine);
    }

    private void minds() {
        says(9, "One becomes one of another KIND, with another TRUTH: the KIND that it was", () -> {
            x.thing(VESSEL, 30, 2, 1);
            x.thing(THING, 30, 2, 1);
            due("was", x.mind(0, SAND, 9), VESSEL);
            due("KIND", x.of(0, 0), SAND);
            due("TRUTH", x.of(0, 2), 9);
            due("WORTH stays", x.of(0, 1), 30);
            due("PIT stays", x.of(0, 3), 1);
            due("what lies above stays", x.above(0), 2);
            due("the other one stays", x.of(1, 0) + x.of(1, 2), 2);
            due("the least ones", x.mind(0, THING, 0), SAND);
            due("KIND 0", x.of(0, 0), 0);
            due("TRUTH 0", x.of(0, 2), 0);
            due("the same again", x.mind(0, THING, 0), THING);
            x.take(0);
            due("one FOUND", x.mind(0, SHOE, 1), THING);
            due("stays FOUND", x.of(0, 3), FOUND);
        });
        says(9, "BAD", () -> {
            for (int kind : new int[] {LOW, -1, 6, HIGH}) {
                refused("kind " + kind, BAD, y -> y.mind(0, kind, 1));
            }
            for (int truth : new int[] {LOW, -1, 10, HIGH}) {
                refused("truth " + truth, BAD, y -> y.mind(0, SAND, truth));
            }
            for (int thing : new int[] {LOW, -1, 6, 8, HIGH}) {
                refused("thing " + thing, BAD, y -> y.mind(thing, 1, 1));
            }
        });
    }

    private void values() {
        says(10, "WORTH of one becomes v: what it was", () -> {
            x.thing(SHOE, 30, 2, 1);
            x.thing(SHOE, 40, 2, 1);
            due("was", x.value(1, 99), 40);
            due("was 99", x.value(1, 0), 99);
            due("is 0", x.of(1, 1), 0);
            due("the other one stays", x.of(0, 1), 30);
            x.take(1);
            due("one FOUND", x.value(1, 5), 0);
            due("is 5", x.of(1, 1), 5);
        });
        says(10, "BAD", () -> {
            for (int v : new int[] {LOW, -1, 100, HIGH}) {
                refused("worth " + v, BAD, y -> y.value(0, v));
            }
            for (int thing : new int[] {LOW, -1, 6, 8, HIGH}) {
                refused("thing " + thing, BAD, y -> y.value(thing, 1));
            }
        });
    }

    private void layings() {
        says(11, "One is laid in a PIT, above all there (taken out of where it is; one that is FOUND, too): "
            + "the PIT in which it was (6: it was FOUND)", () -> {
                makeFull(x);
                due("0 into 5", x.lay(0, 5), 0);
                due("above the one there", x.above(5), 1);
                due("taken out", x.pit(0, 0), 1 << 6);
                due("5 into 0", x.lay(5, 0), 5);
                due("above the one there", x.above(6), 1 << 5);
                due("none above 0 now", x.of(5, 4) + x.of(0, 4), 0);
                x.take(2);
                due("one FOUND", x.lay(2, 5), FOUND);
                due("above", x.above(0), 4);
                due("eight lie", x.many(1), 8);
            });
        says(11, "above all there", () -> {
            for (int i = 0; i < 3; i++) {
                x.thing(THING, 0, 0, 2);
            }
            due("the lowest into its own pit", x.lay(0, 2), 2);
            due("is uppermost", x.pit(2, 1), 0);
            due("above the second one", x.above(1), 5);
            due("the uppermost into its own pit", x.lay(0, 2), 2);
            due("nothing new", x.above(1), 5);
        });
        says(11, "BAD", () -> {
            for (int pit : new int[] {LOW, -1, 6, HIGH}) {
                refused("pit " + pit, BAD, y -> y.lay(0, pit));
                refused("pit " + pit + ", one FOUND", BAD, y -> y.lay(4, pit));
            }
            for (int thing : new int[] {LOW, -1, 6, 8, HIGH}) {
                refused("thing " + thing, BAD, y -> y.lay(thing, 1));
            }
        });
    }

    private void takings() {
        says(12, "One is FOUND at once (OPINION stays): how many LIE then", () -> {
            makeFull(x);
            x.think(33);
            for (int i = 0; i < 8; i++) {
                due("one more", x.take(i), 7 - i);
                due("OPINION", x.state(1), 33);
                due("FOUND", x.of(i, 3), FOUND);
            }
            due("no YEAR passed", x.state(0), 0);
        });
        says(12, "it LIES there, or is FOUND (no more in any PIT)", () -> {
            x.thing(THING, 0, 0, 3);
            x.thing(THING, 0, 0, 3);
            x.take(1);
            due("uppermost", x.pit(3, 1), 0);
            due("in it", x.pit(3, 0), 1);
            for (int pit = 0; pit < 6; pit++) {
                due("pit " + pit, x.pit(pit, 0) & 2, 0);
            }
        });
        says(12, "BAD", () -> {
            for (int thing : new int[] {LOW, -1, 6, 8, HIGH}) {
                refused("thing " + thing, BAD, y -> y.take(thing));
            }
        });
        says(12, "NONE: it is FOUND", () -> refused("one FOUND", NONE, y -> y.take(4)));
    }

    private void reader() {
        says(13, "THE READER is AT a PIT from now on: AT which it was", () -> {
            due("0 to 5", x.bring(5), 0);
            due("AT 5", x.state(2), 5);
            due("5 to 0", x.bring(0), 5);
            due("AT 0", x.state(2), 0);
            due("where it is", x.bring(0), 0);
            due("no YEAR passed", x.state(0), 0);
        });
        says(13, "BAD", () -> {
            for (int pit : new int[] {LOW, -1, 6, HIGH}) {
                refused("pit " + pit, BAD, y -> y.bring(pit));
            }
        });
        says(14, "OPINION becomes v: what it was", () -> {
            due("50 to 99", x.think(99), 50);
            due("is 99", x.state(1), 99);
            due("99 to 0", x.think(0), 99);
            due("is 0", x.state(1), 0);
        });
        says(14, "has an OPINION (0 to 99; 50 at first)", () -> {
            due("99", x.think(99), 50);
            due("100", x.think(100), BAD);
            due("-1", x.think(-1), BAD);
            due("0", x.think(0), 99);
        });
        says(14, "BAD", () -> {
            for (int v : new int[] {LOW, -1, 100, HIGH}) {
                refused("opinion " + v, BAD, y -> y.think(v));
            }
        });
    }

    private void pits() {
        says(15, "Of a PIT: what = 0 those that LIE in it, as a set", () -> {
            makeFull(x);
            due("the first one", x.pit(0, 0), 1 | 1 << 6);
            due("with the last one", x.pit(1, 0), 2 | 1 << 7);
            due("the last pit", x.pit(5, 0), 1 << 5);
            for (int i = 0; i < 8; i++) {
                x.lay(i, 3);
            }
            due("all", x.pit(3, 0), 255);
            due("empty", x.pit(0, 0), 0);
            x.take(7);
            due("without the found one", x.pit(3, 0), 127);
        });
        says(15, "Sets are told by bits", () -> {
            makeFull(x);
            for (int i = 0; i < 6; i++) {
                due("pit " + i, x.pit(i, 0) & 63, 1 << i);
            }
        });
        says(15, "1 the uppermost one (8: none)", () -> {
            due("none", x.pit(0, 1), 8);
            x.thing(THING, 0, 0, 0);
            due("the first one", x.pit(0, 1), 0);
            x.thing(THING, 0, 0, 0);
            due("the later one", x.pit(0, 1), 1);
            x.lay(0, 0);
            due("the one laid latest", x.pit(0, 1), 0);
            x.take(0);
            due("the one beneath", x.pit(0, 1), 1);
            x.take(1);
            due("none any more", x.pit(0, 1), 8);
            due("another pit", x.pit(5, 1), 8);
        });
        says(15, "BAD", () -> {
            for (int pit : new int[] {LOW, -1, 6, HIGH}) {
                refused("pit " + pit, BAD, y -> y.pit(pit, 0));
                refused("the uppermost of pit " + pit, BAD, y -> y.pit(pit, 1));
            }
            for (int what : new int[] {LOW, -1, 2, HIGH}) {
                refused("what " + what, BAD, y -> y.pit(0, what));
            }
        });
    }
}
