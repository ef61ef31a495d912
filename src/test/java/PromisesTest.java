/** Each promise by its number: ordinary answers, the edges that the document names, wrong inputs. */
public final class PromisesTest {
    private static final int BAD = SampleLayers.BAD, FULL = SampleLayers.FULL, NONE = SampleLayers.NONE;
    private static final int LOW = Integer.MIN_VALUE, HIGH = Integer.MAX_VALUE;
    private static final int THING = 0, VESSEL = 1, RUBBISH = 2, MOSAIC = 3, SHOE = 4, SAND = 5;

    private static final Check CHECK = new Check();
    /** The object that is asked, and the promise that is tested. */
    private static SampleLayers x;
    private static int promise;

    public static void main(String[] args) {
        streetsTold();
        textsInParts();
        faultsOfTexts();
        lawsAndThings();
        layers();
        changes();
        yearsThatPass();
        yearsByDraws();
        statesAndTrials();
        bestChoices();
        awayAboveFits();
        fractions();
        rows();
        sheets();
        shelvesAndActs();
        manyKeepAgain();
        CHECK.end();
    }

    private static void fresh() {
        x = new SampleLayers();
    }

    private static void due(String call, long got, long want) {
        CHECK.due("promise " + promise + ": " + call, got, want);
    }

    private static int told(String text) {
        return Tapes.tell(x, text);
    }

    /** The answer to a text with a fault at a place. */
    private static int fault(int place) {
        return -100 - place;
    }

    private static void streetsTold() {
        promise = 1;
        fresh();
        due("many things", x.many(0), 0);
        due("laws", x.lawOf(0) * 1000 + x.lawOf(1) * 100 + x.lawOf(2) * 10, 3220);
        due("slip", x.lawOf(3), 20);
        due("year", x.state(0), 0);
        due("opinion", x.state(1), 50);
        due("reader", x.state(2), 0);
        due("again", x.again(), NONE);
        due("z", x.seed(5), 1);
        due("sheet", x.put(0, 0, 0), -11);
        due("shelf", x.taken(0, 0), -11);
        due("trace", x.many(6), 0);

        promise = 2;
        fresh();
        due("a byte", x.feed(59, 1), 1);
        due("lowest first", x.street(), fault(0));
        x.feed(0x6e69L << 48 | 0x20676e696874L, 8);
        due("the rest of eight counts nothing", x.feed(0x7f7f7f7f7f3b3020L, 3), 11);
        due("thing in 0;", x.street(), 1);
        due("0", x.feed(0, 0), BAD);
        due("9", x.feed(0, 9), BAD);
        due("lowest int", x.feed(0, LOW), BAD);
        for (int i = 1; i <= 25; i++) {
            due("eight", x.feed(0x2020202020202020L, 8), 8 * i);
        }
        due("over 200", x.feed(32, 1), FULL);
        due("BAD before FULL", x.feed(32, 9), BAD);
        due("nothing came", x.many(5), 200);
        due("all blanks", x.street(), 0);
        due("used up", x.many(5), 0);
        fresh();
        Tapes.feed(x, " ".repeat(193));
        due("only some would fit", x.feed(0x2020202020202020L, 8), FULL);
        due("none came", x.feed(0x20202020202020L, 7), 200);
    }

    private static void textsInParts() {
        promise = 3;
        fresh();
        due("empty", told(""), 0);
        due("blanks", told("   "), 0);
        x.years(4);
        x.thing(SAND, 1, 1, 1);
        x.prove(0, 3);
        x.seed(77);
        x.sheet(1, 2, 3);
        x.shelf(2, 0, 0);
        x.keep();
        due("all kinds", told("thing in 0;vessel in 1;rubbish in 2;mosaic in 3;shoe in 4;sand in 5;"), 6);
        for (int i = 0; i < 6; i++) {
            due("kind", x.of(i, 0), i);
            due("worth", x.of(i, 1), 10);
            due("truth", x.of(i, 2), 0);
            due("pit", x.of(i, 3), i);
        }
        due("year", x.state(0), 0);
        due("reader", x.state(2), 0);
        due("rows", x.many(4), 0);
        due("z stays", x.seed(77), 77);
        due("sheets stay", x.item(1, 2, 2), 0);
        due("shelves stay", x.taken(2, 0), 0);
        due("what is kept stays", x.again(), 1);
        due("settings", told("  reader 5;opinion 99 ;dig 9; shine 8;filth 7;slip 99;  "), 0);
        due("reader", x.state(2), 5);
        due("opinion", x.state(1), 99);
        due("dig", x.lawOf(0), 9);
        due("shine", x.lawOf(1), 8);
        due("filth", x.lawOf(2), 7);
        due("slip", x.lawOf(3), 99);
        due("the later one", told("dig 1;dig 002;reader 0;thing in 000 worth 099 truth 009;"), 1);
        due("dig", x.lawOf(0), 2);
        due("as at first", x.lawOf(3), 20);
        due("opinion as at first", x.state(1), 50);
        due("worth", x.of(0, 1), 99);
        due("truth", x.of(0, 2), 9);
        due("truth alone", told("shoe in 1 truth 3;"), 1);
        due("its truth", x.of(0, 2), 3);
        due("its worth", x.of(0, 1), 10);
        due("no blanks but between names", told("thing in3worth4truth5;reader2;"), 1);
        due("its pit", x.of(0, 3), 3);
        due("many blanks", told("  thing   in   3   ;  "), 1);
        due("above all there", told("thing in 3;sand in 3;shoe in 3;"), 3);
        due("above the first", x.above(0), 6);
        due("eight", told("thing in 1;".repeat(8)), 8);
    }

    private static void faultsOfTexts() {
        promise = 3;
        fresh();
        x.thing(MOSAIC, 5, 5, 5);
        x.years(1);
        x.prove(0, 2);
        due("a ninth", told("thing in 1;".repeat(8) + "sand"), fault(88));
        due("nothing became", x.of(0, 0), MOSAIC);
        due("nothing passed", x.state(0), 1);
        due("rows stay", x.many(4), 2);
        due("used up", x.many(5), 0);
        due("no such name", told(" things in 1;"), fault(1));
        due("upper letter", told("Thing in 1;"), fault(0));
        due("upper letter behind", told("thinG in 1;"), fault(0));
        due("upper letter behind in", told("thing iN 1;"), fault(6));
        due("a number first", told("  7;"), fault(2));
        due("a sign first", told(";"), fault(0));
        due("no in", told("thing on 1;"), fault(6));
        due("number for in", told("thing 1;"), fault(6));
        due("name for number", told("thing in one;"), fault(9));
        due("end for in", told("thing  "), fault(7));
        due("end for number", told("thing in"), fault(8));
        due("end for sign", told("thing in 1"), fault(10));
        due("end behind blanks", told("thing in 1 worth 5   "), fault(21));
        due("end for worth", told("thing in 1 worth"), fault(16));
        due("end for setting", told("dig"), fault(3));
        due("end of setting", told("dig 3"), fault(5));
        due("sign too early", told("dig ;"), fault(4));
        due("two signs", told("dig 3;;"), fault(6));
        due("truth before worth", told("thing in 1 truth 1 worth 1;"), fault(19));
        due("worth twice", told("thing in 1 worth 1 worth 1;"), fault(19));
        due("truth twice", told("thing in 1 truth 1 truth 1;"), fault(19));
        due("pit 6", told("thing in 6;"), fault(9));
        due("worth 100", told("thing in 1 worth 100;"), fault(17));
        due("truth 10", told("thing in 1 truth 10;"), fault(17));
        due("reader 6", told("reader 6;"), fault(7));
        due("opinion 100", told("opinion 100;"), fault(8));
        due("dig 10", told("dig 10;"), fault(4));
        due("shine 10", told("shine 10;"), fault(6));
        due("filth 10", told("filth 10;"), fault(6));
        due("slip 100", told("slip 100;"), fault(5));
        due("four digits", told("dig 0003;"), fault(4));
        due("below 0", told("dig -1;"), fault(4));
        due("byte above 127", told("dig \u00e93;"), fault(4));
        due("byte 0", told("dig 3\u0000;"), fault(5));
        due("a tab is no blank", told("dig\t3;"), fault(3));
        due("names grown together", told("thingin 1;"), fault(0));
        due("z is a letter", told("digz 3;"), fault(0));
        due("a is a letter", told("diga 3;"), fault(0));
        due("9 and 0 are digits", told("slip 90;slip 09;"), 0);
        due("the first of two", told("dig 99; foo"), fault(4));
        due("sign behind blanks", told("dig 3 4;"), fault(6));
    }

    private static void lawsAndThings() {
        promise = 4;
        fresh();
        int[] first = {3, 2, 2, 20};
        for (int law = 0; law < 4; law++) {
            int most = law == 3 ? 99 : 9;
            due("was", x.set(law, most), first[law]);
            due("0", x.set(law, 0), most);
            due("above", x.set(law, most + 1), BAD);
            due("below", x.set(law, -1), BAD);
            due("stays", x.lawOf(law), 0);
        }
        due("law 4", x.set(4, 1), BAD);
        due("law -1", x.set(-1, 1), BAD);
        promise = 5;
        x.set(2, 7);
        due("2", x.lawOf(2), 7);
        due("4", x.lawOf(4), BAD);
        due("-1", x.lawOf(-1), BAD);

        promise = 6;
        fresh();
        int[][] wrong = {{-1, 0, 0, 0}, {6, 0, 0, 0}, {0, -1, 0, 0}, {0, 100, 0, 0}, {0, 0, -1, 0},
            {0, 0, 10, 0}, {0, 0, 0, -1}, {0, 0, 0, 6}, {LOW, HIGH, LOW, HIGH}};
        for (int[] w : wrong) {
            due("wrong", x.thing(w[0], w[1], w[2], w[3]), BAD);
        }
        due("none came", x.many(0), 0);
        for (int i = 0; i < 8; i++) {
            due("one more", x.thing(i % 6, 99 - i, i, i % 2 * 5), i);
        }
        due("a ninth", x.thing(0, 0, 0, 0), FULL);
        due("BAD before FULL", x.thing(6, 0, 0, 0), BAD);
        promise = 7;
        due("kind", x.of(7, 0), 1);
        due("worth", x.of(7, 1), 92);
        due("truth", x.of(7, 2), 7);
        due("pit", x.of(7, 3), 5);
        due("above", x.of(7, 4), 0);
        due("above the lowest", x.of(1, 4), 3);
        x.take(3);
        due("found", x.of(3, 3), 6);
        due("above a found one", x.of(3, 4), 0);
        due("one less above", x.of(1, 4), 2);
        due("what 5", x.of(0, 5), BAD);
        due("what -1", x.of(0, -1), BAD);
        due("thing 8", x.of(8, 0), BAD);
        due("thing -1", x.of(-1, 0), BAD);
    }

    private static void layers() {
        promise = 8;
        fresh();
        for (int kind = 0; kind < 6; kind++) {
            x.thing(kind, 57, 4, 2);
        }
        int[] speaks = {5, 7, 3, 14, 7, 5};
        int[] hides = {1, 2, 0, 6, 2, 1};
        for (int i = 0; i < 6; i++) {
            due("speaks", x.does(i, 0), 1000 + speaks[i]);
            due("hides", x.does(i, 1), 1000 + hides[i]);
        }
        x.set(1, 9);
        x.set(2, 9);
        due("vessel by shine", x.does(VESSEL, 0), 1014);
        due("mosaic by shine", x.does(MOSAIC, 0), 1028);
        due("rubbish by filth", x.does(RUBBISH, 0), 996);
        due("shoe by filth", x.does(SHOE, 0), 1000);
        x.lay(SAND, 2);
        x.lay(THING, 2);
        x.lay(SHOE, 2);
        due("sand beneath two", x.does(SAND, 1), 1003);
        x.take(SHOE);
        due("sand beneath one", x.does(SAND, 1), 1002);
        due("found shoe hides", x.does(SHOE, 1), 1002);
        x.take(SAND);
        due("found sand hides", x.does(SAND, 1), 1001);
        x.set(0, 0);
        x.years(1);
        due("sand in year 1", x.does(SAND, 0), 996);
        x.years(1);
        due("sand in year 2", x.does(SAND, 0), 996);
        due("found shoe speaks", x.does(SHOE, 0), 1000);
        x.years(1);
        due("sand in year 3", x.does(SAND, 0), 1005);
        due("what 2", x.does(0, 2), BAD);
        due("what -1", x.does(0, -1), BAD);
        due("thing 6", x.does(6, 0), BAD);

        promise = 15;
        fresh();
        due("none", x.pit(0, 0), 0);
        due("no uppermost", x.pit(0, 1), 8);
        x.thing(0, 1, 1, 0);
        x.thing(0, 1, 1, 0);
        x.thing(0, 1, 1, 5);
        x.lay(0, 0);
        due("set", x.pit(0, 0), 3);
        due("uppermost", x.pit(0, 1), 0);
        due("pit 5", x.pit(5, 0), 4);
        due("pit 6 (where the found are)", x.pit(6, 0), BAD);
        due("pit -1", x.pit(-1, 0), BAD);
        due("what 2", x.pit(0, 2), BAD);
        x.take(0);
        due("uppermost then", x.pit(0, 1), 1);
    }

    private static void changes() {
        fresh();
        x.thing(VESSEL, 30, 2, 1);
        x.thing(SAND, 40, 9, 1);
        promise = 9;
        due("was", x.mind(0, MOSAIC, 9), VESSEL);
        due("is", x.of(0, 0), MOSAIC);
        due("truth", x.of(0, 2), 9);
        due("worth stays", x.of(0, 1), 30);
        due("place stays", x.of(0, 4), 1);
        due("kind 6", x.mind(0, 6, 0), BAD);
        due("kind -1", x.mind(0, -1, 0), BAD);
        due("truth 10", x.mind(0, 0, 10), BAD);
        due("truth -1", x.mind(0, 0, -1), BAD);
        due("thing 2", x.mind(2, 0, 0), BAD);
        due("stays", x.of(0, 0), MOSAIC);
        promise = 10;
        due("was", x.value(1, 99), 40);
        due("is", x.value(1, 0), 99);
        due("100", x.value(1, 100), BAD);
        due("-1", x.value(1, -1), BAD);
        due("thing -1", x.value(-1, 1), BAD);
        due("stays", x.of(1, 1), 0);
        promise = 11;
        due("same pit", x.lay(0, 1), 1);
        due("above all", x.above(1), 1);
        due("another", x.lay(0, 5), 1);
        due("nothing above", x.above(1), 0);
        x.take(1);
        due("found", x.lay(1, 5), 6);
        due("above", x.above(0), 2);
        due("pit 6", x.lay(0, 6), BAD);
        due("pit -1", x.lay(0, -1), BAD);
        due("thing 2", x.lay(2, 0), BAD);
        promise = 12;
        x.think(70);
        due("one lies yet", x.take(0), 1);
        due("found", x.take(0), NONE);
        due("none lies", x.take(1), 0);
        due("opinion stays", x.state(1), 70);
        due("thing 2", x.take(2), BAD);
        due("thing -1", x.take(-1), BAD);
        promise = 13;
        due("was", x.bring(5), 0);
        due("is", x.bring(2), 5);
        due("6", x.bring(6), BAD);
        due("-1", x.bring(-1), BAD);
        due("stays", x.state(2), 2);
        promise = 14;
        due("was", x.think(99), 70);
        due("is", x.think(0), 99);
        due("100", x.think(100), BAD);
        due("-1", x.think(-1), BAD);
        due("stays", x.state(1), 0);
    }

    private static void yearsThatPass() {
        promise = 16;
        fresh();
        due("0", x.years(0), BAD);
        due("61", x.years(61), BAD);
        due("lowest", x.years(LOW), BAD);
        due("no year passed", x.state(0), 0);
        x.thing(THING, 90, 0, 0);
        x.thing(VESSEL, 55, 0, 0);
        x.thing(RUBBISH, 5, 0, 0);
        due("rubbish, vessel, thing: all of strength 3", x.years(1), 64);
        due("reader", x.state(2), 1);
        due("year", x.state(0), 1);
        due("all found", x.state(3), 0);
        due("around", x.years(5), 64);
        due("behind 5 comes 0", x.state(2), 0);
        fresh();
        x.set(0, 2);
        x.thing(THING, 90, 0, 0);
        x.thing(VESSEL, 55, 0, 0);
        due("strength used up", x.years(1), 57);
        due("the thing lies", x.state(3), 1);
        x.set(0, 0);
        x.thing(RUBBISH, 95, 0, 1);
        due("rubbish without strength", x.years(1), 64);
        fresh();
        x.thing(THING, 99, 0, 0);
        x.thing(MOSAIC, 99, 2, 0);
        due("one beneath what is too deep stays", x.years(60), 50);
        due("both lie", x.state(3), 3);
        fresh();
        x.set(0, 9);
        x.think(3);
        x.set(2, 9);
        x.thing(THING, 25, 0, 0);
        x.thing(RUBBISH, 0, 0, 0);
        due("held to 0 at each", x.years(1), 2);
        fresh();
        x.set(0, 9);
        x.think(98);
        x.set(2, 9);
        x.thing(RUBBISH, 0, 0, 0);
        x.thing(THING, 25, 0, 0);
        due("held to 99 at each", x.years(1), 90);
        fresh();
        x.thing(SAND, 77, 4, 0);
        x.thing(SAND, 77, 4, 1);
        due("sand in year 0 and in year 1", x.years(2), 53);
    }

    private static void yearsByDraws() {
        promise = 17;
        fresh();
        due("at first", x.seed(LOW), 1);
        due("then", x.seed(-3), LOW);
        due("below 0", x.seed(1), -3);

        promise = 18;
        due("without things no draw", x.year(), 50);
        due("z", x.seed(1), 1);
        due("a year", x.state(0), 1);
        x.thing(THING, 90, 0, 3);
        x.set(3, 0);
        x.set(0, 0);
        due("without slips", x.year(), 50);
        int twice = drawn(drawn(1));
        due("two draws", x.seed(1), twice);
        x.set(3, 99);
        // The second draw from 1 leaves 76 by 100, so it slips; the third tells the pit.
        due("second draw", (drawn(drawn(1)) >>> 16) % 100 < 99 ? 1 : 0, 1);
        int pit = (drawn(drawn(drawn(1))) >>> 16) % 6;
        x.year();
        due("three draws", x.seed(1), drawn(drawn(drawn(1))));
        due("laid", x.of(0, 3), pit);
        x.take(0);
        x.year();
        due("one found: two draws", x.seed(1), twice);
        due("still found", x.of(0, 3), 6);
        int slip = (drawn(drawn(1)) >>> 16) % 100;
        x.set(3, slip);
        x.lay(0, 3);
        x.year();
        due("not below SLIP", x.seed(1), twice);
        x.set(3, slip + 1);
        x.year();
        due("below SLIP", x.seed(1), drawn(drawn(drawn(1))));
        slipBeforeTheYear();

        promise = 19;
        fresh();
        due("0", x.luck(0), BAD);
        due("31", x.luck(31), BAD);
        due("nothing to slip", x.luck(30), 0);
        x.thing(THING, 90, 0, 4);
        x.set(3, 99);
        x.seed(11);
        due("as counted", x.luck(30), slipsIntoPit0(30, 11));
        due("z stays", x.seed(11), 11);
        int z = 1;
        while (slipsIntoPit0(1, z) == 0) {
            z++;
        }
        x.seed(z);
        due("one of one", x.luck(1), 1);
        x.lay(0, 1);
        due("more than behind one year, not two", x.luck(1), 1);
        x.lay(0, 4);
        x.seed(11);
        due("z stays", x.seed(11), 11);
        due("it stays", x.of(0, 3), 4);
        due("no year", x.state(0), 0);
    }

    private static int drawn(int z) {
        return z * 1103515245 + 12345;
    }

    private static void slipBeforeTheYear() {
        int z = 1;
        while ((drawn(drawn(drawn(z))) >>> 16) % 6 != 0 || (drawn(drawn(z)) >>> 16) % 100 >= 99) {
            z++;
        }
        fresh();
        x.thing(THING, 90, 0, 3);
        x.set(3, 99);
        x.seed(z);
        due("laid before THE READER's eyes", x.year(), 59);
    }

    /** How many of n years of one thing, with slips of 99 of a hundred, bring it under the reader. */
    private static int slipsIntoPit0(int n, int seed) {
        int z = seed;
        int many = 0;
        for (int i = 0; i < n; i++) {
            z = drawn(drawn(z));
            if ((z >>> 16) % 100 < 99) {
                z = drawn(z);
                many += (z >>> 16) % 6 == 0 ? 1 : 0;
            }
        }
        return many;
    }

    private static void statesAndTrials() {
        promise = 20;
        fresh();
        x.thing(THING, 90, 0, 4);
        x.thing(VESSEL, 20, 0, 4);
        x.thing(THING, 7, 0, 2);
        x.take(2);
        x.bring(3);
        due("year", x.state(0), 0);
        due("opinion", x.state(1), 50);
        due("reader", x.state(2), 3);
        due("lying", x.state(3), 3);
        due("worth", x.state(4), 110);
        due("cover", x.state(5), 16);
        x.lay(2, 0);
        x.lay(1, 1);
        due("cover by the least of several", x.state(5), 3);
        x.thing(SHOE, 7, 0, 5);
        x.thing(SAND, 7, 0, 5);
        x.thing(VESSEL, 7, 0, 5);
        due("cover by the fewest", x.state(5), 33);
        for (int i = 0; i < 6; i++) {
            x.thing(i, 7, 0, i);
            x.mind(i, i, 0);
            x.lay(i, i);
        }
        x.take(6);
        x.take(7);
        due("all six pits", x.state(5), 63);
        due("what 6", x.state(6), BAD);
        due("what -1", x.state(-1), BAD);

        promise = 21;
        fresh();
        x.thing(THING, 90, 0, 2);
        due("0", x.thought(0), 50);
        due("2", x.thought(2), 50);
        due("3", x.thought(3), 59);
        due("60", x.thought(60), 59);
        due("61", x.thought(61), BAD);
        due("-1", x.thought(-1), BAD);
        due("nothing changes", x.state(0) + x.state(3), 1);

        promise = 22;
        x.thing(MOSAIC, 90, 9, 3);
        due("2", x.dug(0), 3);
        due("too deep", x.dug(1), NONE);
        due("thing 2", x.dug(2), BAD);
        due("thing -1", x.dug(-1), BAD);
        promise = 23;
        due("not by then", x.empty(), NONE);
        x.take(1);
        due("3", x.empty(), 3);
        x.take(0);
        due("none lies", x.empty(), 0);
        promise = 22;
        due("found", x.dug(0), 0);

        promise = 24;
        fresh();
        x.thing(THING, 90, 0, 2);
        due("now", x.praised(50), 0);
        due("51", x.praised(51), 3);
        due("59", x.praised(59), 3);
        due("60", x.praised(60), NONE);
        due("100", x.praised(100), BAD);
        due("-1", x.praised(-1), BAD);
        // A visit finds one or none will: eight in pit 5 take the most years that there can be.
        fresh();
        x.set(0, 1);
        for (int i = 0; i < 8; i++) {
            x.thing(THING, 10, 0, 5);
        }
        due("6, 12, .. 48", x.praised(58), 48);
        promise = 23;
        due("48", x.empty(), 48);
        promise = 22;
        due("48", x.dug(0), 48);
        x.mind(3, VESSEL, 0);
        due("none beneath what is too deep", x.dug(0), NONE);
        due("those above it", x.dug(4), 24);
    }

    private static void bestChoices() {
        promise = 25;
        fresh();
        x.thing(THING, 90, 0, 4);
        x.thing(RUBBISH, 99, 0, 1);
        due("reached in all of six", x.pitFor(0, 6), 0);
        due("reached in 0 alone", x.pitFor(0, 1), 0);
        x.bring(2);
        due("the pit of the reader", x.pitFor(0, 1), 2);
        due("least of two", x.pitFor(0, 3), 2);
        x.set(0, 0);
        due("nowhere", x.pitFor(0, 6), 0);
        due("it stays", x.of(0, 3), 4);
        due("0", x.pitFor(0, 0), BAD);
        due("21", x.pitFor(0, 21), BAD);
        due("thing 2", x.pitFor(2, 1), BAD);
        x.take(0);
        due("found", x.pitFor(0, 1), NONE);
        due("BAD before NONE", x.pitFor(0, 21), BAD);
        // In its own pit it is laid above what was too deep before.
        fresh();
        x.thing(THING, 90, 0, 2);
        x.thing(MOSAIC, 90, 9, 2);
        x.bring(2);
        due("above all there now", x.pitFor(0, 1), 2);

        promise = 26;
        fresh();
        x.thing(THING, 50, 1, 0);
        due("mosaic", x.kindFor(0, 1), MOSAIC);
        x.mind(0, THING, 9);
        due("with truth 9 a shoe", x.kindFor(0, 1), SHOE);
        x.set(0, 1);
        due("the shallow ones alike", x.kindFor(0, 1), THING);
        x.bring(1);
        due("none is reached", x.kindFor(0, 1), THING);
        due("kind stays", x.of(0, 0), THING);
        due("0", x.kindFor(0, 0), BAD);
        due("21", x.kindFor(0, 21), BAD);
        due("thing 1", x.kindFor(1, 1), BAD);
        x.take(0);
        due("found", x.kindFor(0, 1), NONE);

        promise = 27;
        fresh();
        x.thing(THING, 50, 1, 2);
        due("58", x.worthFor(0, 3, 58), 80);
        due("50", x.worthFor(0, 3, 50), 0);
        due("59", x.worthFor(0, 3, 59), 90);
        due("60", x.worthFor(0, 3, 60), NONE);
        due("too soon", x.worthFor(0, 2, 51), NONE);
        due("worth stays", x.of(0, 1), 50);
        due("0", x.worthFor(0, 0, 0), BAD);
        due("21", x.worthFor(0, 21, 0), BAD);
        due("-1", x.worthFor(0, 1, -1), BAD);
        due("100", x.worthFor(0, 1, 100), BAD);
        due("thing 1", x.worthFor(1, 1, 1), BAD);
        x.take(0);
        due("found", x.worthFor(0, 1, 0), NONE);

        promise = 28;
        fresh();
        due("all alike", x.beginFor(20), 0);
        x.thing(RUBBISH, 0, 0, 0);
        x.thing(THING, 99, 0, 4);
        x.thing(THING, 99, 0, 5);
        due("1", x.beginFor(1), 4);
        due("2", x.beginFor(2), 4);
        due("3", x.beginFor(3), 3);
        due("reader stays", x.state(2), 0);
        due("0", x.beginFor(0), BAD);
        due("21", x.beginFor(21), BAD);
    }

    private static void awayAboveFits() {
        promise = 29;
        fresh();
        due("none needed", x.awayFor(1, 50), 0);
        x.thing(THING, 99, 0, 0);
        x.thing(MOSAIC, 99, 9, 0);
        x.thing(MOSAIC, 99, 9, 0);
        due("two mosaics", x.awayFor(1, 59), 6);
        due("by no set", x.awayFor(20, 60), NONE);
        x.take(2);
        due("that lie alone", x.awayFor(1, 59), 2);
        due("nothing changes", x.state(3), 3);
        due("0", x.awayFor(0, 50), BAD);
        due("21", x.awayFor(21, 50), BAD);
        due("100", x.awayFor(1, 100), BAD);
        due("-1", x.awayFor(1, -1), BAD);
        // Either of two sets of one does: the mosaic in pit 0 or in pit 1.
        fresh();
        x.thing(THING, 99, 0, 0);
        x.thing(THING, 99, 0, 1);
        x.thing(MOSAIC, 0, 9, 1);
        x.thing(MOSAIC, 0, 9, 0);
        due("the least of several", x.awayFor(2, 59), 4);
        due("both", x.awayFor(2, 60), 12);
        fresh();
        for (int i = 0; i < 8; i++) {
            x.thing(RUBBISH, 0, 0, 0);
        }
        due("all eight", x.awayFor(1, 50), 255);
        due("seven", x.awayFor(1, 48), 127);
        due("one", x.awayFor(1, 36), 1);
        fresh();
        x.thing(MOSAIC, 0, 9, 0);
        x.thing(VESSEL, 0, 0, 1);
        x.thing(MOSAIC, 0, 9, 1);
        due("a higher one alone", x.awayFor(2, 52), 4);
        x.lay(0, 1);

        promise = 30;
        due("above", x.above(1), 5);
        due("one", x.above(2), 1);
        due("none", x.above(0), 0);
        due("thing 3", x.above(3), BAD);
        due("thing -1", x.above(-1), BAD);
        x.take(1);
        due("found", x.above(1), 0);

        promise = 31;
        fresh();
        x.thing(THING, 55, 0, 1);
        x.thing(THING, 55, 0, 5);
        due("missing", x.fits(0, 0, 0), -11);
        x.sheet(0, 3, 2);
        x.put(0, 0, -1);
        x.put(0, 1, 57);
        due("how many", x.fits(0, 0, 0), 10);
        due("least", x.fits(0, 0, 1), 70);
        due("the other", x.fits(0, 1, 0), 0);
        due("its least", x.fits(0, 1, 1), NONE);
        x.put(0, 0, 51);
        due("the first year must fit too", x.fits(0, 0, 0), 0);
        x.sheet(0, 0, 0);
        due("nothing told", x.fits(0, 0, 0), 100);
        x.sheet(0, 1, 40);
        for (int i = 0; i < 40; i++) {
            x.put(0, i, i == 0 ? 50 : i < 5 ? 55 : -1);
        }
        due("long sheet", x.fits(0, 0, 1), 50);
        x.put(0, 39, 64);
        due("its last", x.fits(0, 0, 0), 0);
        x.put(0, 39, 60);
        due("its last fits", x.fits(0, 0, 0), 10);
        x.put(0, 39, -2);
        due("-2 is nothing that is thought", x.fits(0, 0, 0), 0);
        due("nothing changes", x.state(0) + x.of(0, 1), 55);
        due("sheet 4", x.fits(4, 0, 0), BAD);
        due("sheet -1", x.fits(-1, 0, 0), BAD);
        due("thing 2", x.fits(0, 2, 0), BAD);
        due("what 2", x.fits(0, 0, 2), BAD);
        due("BAD before -11", x.fits(1, 2, 0), BAD);
        x.take(0);
        x.sheet(0, 2, 1);
        x.put(0, 0, 50);
        due("a found one fits with all", x.fits(0, 0, 0), 100);
        x.sheet(3, 2, 0);
        due("the last sheet", x.fits(3, 0, 1), 0);
    }

    private static void fractions() {
        promise = 32;
        fresh();
        due("C(4,2) * 16 / 625", x.odds(4, 2, 0), 96);
        due("below", x.odds(4, 2, 1), 625);
        x.set(3, 33);
        due("all of 8", x.odds(8, 8, 0), 1406408618241L);
        due("of 10^16", x.odds(8, 8, 1), 10000000000000000L);
        x.set(3, 0);
        due("0", x.odds(8, 3, 0), 0);
        due("by 1", x.odds(8, 3, 1), 1);
        due("0 of 0", x.odds(0, 0, 1), 1);
        due("n -1", x.odds(-1, 0, 0), BAD);
        due("n 9", x.odds(9, 0, 0), BAD);
        due("k -1", x.odds(3, -1, 0), BAD);
        due("k 4 of 3", x.odds(3, 4, 0), BAD);
        due("part 2", x.odds(3, 3, 2), BAD);
        due("part -1", x.odds(3, 3, -1), BAD);
        promise = 33;
        due("0", x.hope(99, 0), 0);
        due("by 1", x.hope(99, 1), 1);
        x.set(3, 35);
        due("99 * 35 / 100", x.hope(99, 0), 693);
        due("below", x.hope(99, 1), 20);
        due("n 0", x.hope(0, 1), 1);
        due("n 100", x.hope(100, 0), BAD);
        due("n -1", x.hope(-1, 0), BAD);
        due("part 2", x.hope(1, 2), BAD);
    }

    private static void rows() {
        promise = 34;
        fresh();
        x.thing(THING, 90, 0, 1);
        due("how many", x.prove(0, 3), 3);
        due("nothing changes", x.state(0) + x.state(3), 1);
        promise = 35;
        int[][] want = {{1, 50, 1}, {0, 59, 2}, {0, 59, 3}};
        for (int i = 0; i < 3; i++) {
            for (int what = 0; what < 3; what++) {
                due("row " + i + " " + what, x.row(i, what), want[i][what]);
            }
        }
        due("row 3", x.row(3, 0), -9);
        due("row -1", x.row(-1, 0), -9);
        due("what 3", x.row(0, 3), -9);
        due("what -1", x.row(0, -1), -9);
        promise = 37;
        due("right", x.judge(0), 0);
        promise = 36;
        due("was", x.alterRow(1, 2, HIGH), 2);
        due("is", x.alterRow(1, 2, 2), HIGH);
        due("row 3", x.alterRow(3, 0, 1), -9);
        due("row -1", x.alterRow(-1, 0, 1), -9);
        due("what 3", x.alterRow(0, 3, 1), -9);
        due("what -1", x.alterRow(1, -1, 1), -9);
        promise = 37;
        for (int i = 2; i >= 0; i--) {
            for (int what = 0; what < 3; what++) {
                int was = x.alterRow(i, what, 77);
                due("wrong", x.judge(0), i + 1);
                x.alterRow(i, what, was);
            }
        }
        x.alterRow(2, 0, 1);
        x.alterRow(1, 1, 1);
        due("the first wrong one", x.judge(0), 2);
        due("thing 1", x.judge(1), BAD);
        due("thing -1", x.judge(-1), BAD);
        promise = 34;
        due("0", x.prove(0, 0), BAD);
        due("11", x.prove(0, 11), BAD);
        due("thing 1", x.prove(1, 1), BAD);
        due("rows stay", x.many(4), 3);
        due("10", x.prove(0, 10), 10);
        due("fewer", x.prove(0, 1), 1);
        due("the rest is gone", x.row(1, 0), -9);
        promise = 37;
        x.value(0, 0);
        due("row 1 is right yet", x.judge(0), 0);
        x.bring(4);
        due("from how it is now", x.judge(0), 1);
        fresh();
        x.thing(THING, 90, 0, 1);
        due("no rows", x.judge(0), 0);
    }

    private static void sheets() {
        promise = 39;
        fresh();
        due("sheet 4", x.sheet(4, 0, 0), BAD);
        due("sheet -1", x.sheet(-1, 0, 0), BAD);
        due("sort 4", x.sheet(0, 4, 0), BAD);
        due("sort -2", x.sheet(0, -2, 0), BAD);
        due("41", x.sheet(0, 0, 41), BAD);
        due("below 0", x.sheet(0, 0, -1), -14);
        due("lowest", x.sheet(0, 0, LOW), -14);
        due("BAD before -14", x.sheet(0, 4, -1), BAD);
        due("still missing", x.item(0, 0, 0), -11);
        due("0 items", x.sheet(0, 0, 0), 1);
        due("not missing", x.item(0, 0, 0), -12);
        due("missing, n counts nothing", x.sheet(0, -1, 41), 1);
        due("missing", x.item(0, 0, 0), -11);
        due("40", x.sheet(0, 2, 40), 1);
        promise = 40;
        due("last", x.put(0, 39, HIGH), 1);
        due("40", x.put(0, 40, 1), -12);
        due("-1", x.put(0, -1, 1), -12);
        due("sheet 4", x.put(4, 0, 1), BAD);
        due("missing", x.put(1, 0, 1), -11);
        promise = 41;
        due("is", x.item(0, 2, 39), HIGH);
        due("others", x.item(0, 2, 38), 0);
        due("40", x.item(0, 2, 40), -12);
        due("-1", x.item(0, 2, -1), -12);
        due("as bytes", x.item(0, 0, 0), -13);
        due("-13 before -12", x.item(0, 0, 40), -13);
        due("sheet 4", x.item(4, 0, 0), BAD);
        due("sort 4", x.item(0, 4, 0), BAD);
        due("sort -1", x.item(0, -1, 0), BAD);
        due("missing", x.item(1, 0, 0), -11);
        promise = 39;
        due("anew", x.sheet(0, 2, 40), 1);
        due("all 0", x.item(0, 2, 39), 0);
        promise = 40;
        int[] narrowed = {-56, 200, 200, 200};
        int[] wide = {-1, -1, 0x12ffff, 0x12ffff};
        for (int sort = 0; sort < 4; sort++) {
            x.sheet(sort, sort, 2);
            x.put(sort, 0, 200);
            x.put(sort, 1, 0x12ffff);
            due("200", x.item(sort, sort, 0), narrowed[sort]);
            due("0x12ffff", x.item(sort, sort, 1), wide[sort]);
        }
        x.put(3, 0, LOW);
        due("lowest in longs", x.item(3, 3, 0), LOW);

        promise = 38;
        fresh();
        for (int i = 0; i < 3; i++) {
            x.thing(THING, 50, 0, i);
        }
        x.take(2);
        x.sheet(0, 0, 4);
        x.put(0, 0, -7);
        x.put(0, 1, 42);
        x.put(0, 2, 127);
        x.put(0, 3, 99);
        x.sheet(1, 1, 4);
        due("three", x.minds(0, 0, 0, 3), 3);
        due("held to 0", x.of(0, 1), 0);
        due("as it is", x.of(1, 1), 42);
        due("held to 99, a found one too", x.of(2, 1), 99);
        due("from 1 on", x.minds(0, 1, 1, 1), 1);
        due("0 at the end", x.minds(0, 4, 2, 0), 0);
        due("beyond the end", x.minds(0, 5, 2, 0), -12);
        due("-1", x.minds(0, -1, 2, 0), -12);
        due("not so many", x.minds(0, 3, 0, 2), -12);
        due("highest i", x.minds(0, HIGH, 0, 1), -12);
        due("beyond the last one", x.minds(0, 0, 1, 3), BAD);
        due("n 9", x.minds(0, 0, 0, 9), BAD);
        due("n -1", x.minds(0, 0, 0, -1), BAD);
        due("highest n", x.minds(0, 0, 1, HIGH), BAD);
        due("thing 3, n 0", x.minds(0, 0, 3, 0), BAD);
        due("thing -1", x.minds(0, 0, -1, 1), BAD);
        due("sheet 4", x.minds(4, 0, 0, 1), BAD);
        due("missing", x.minds(2, 9, 0, 1), -11);
        due("shorts, before -12", x.minds(1, 9, 0, 1), -13);
        due("BAD before -11", x.minds(2, 0, 3, 0), BAD);
        due("refusals change nothing", x.of(0, 1), 0);
        due("those behind stay", x.of(2, 1), 99);
        x.sheet(3, 0, 1);
        due("the last sheet", x.minds(3, 0, 1, 1), 1);
        due("its 0", x.of(1, 1), 0);
        due("those behind stay", x.of(2, 1), 99);
    }

    private static void shelvesAndActs() {
        promise = 42;
        fresh();
        x.thing(MOSAIC, 50, 3, 0);
        x.thing(SHOE, 50, 7, 0);
        due("a thing", x.shelf(0, 0, 1), 1);
        due("no such thing", x.shelf(0, 0, 2), BAD);
        due("thing -1", x.shelf(0, 0, -1), BAD);
        due("shelf 4", x.shelf(4, 0, 0), BAD);
        due("shelf -1", x.shelf(-1, 2, 0), BAD);
        due("what 3", x.shelf(0, 3, 0), BAD);
        due("what -1", x.shelf(0, -1, 0), BAD);
        due("no such sheet", x.shelf(0, 1, 4), BAD);
        x.sheet(2, 1, 5);
        due("a row", x.shelf(1, 1, 2), 1);
        due("of a missing sheet", x.shelf(2, 1, 3), 1);
        due("nothing", x.shelf(3, 2, 99), 1);
        promise = 43;
        int[] asShoe = {1, -13, 1, -13, 1, -13};
        for (int as = 0; as < 6; as++) {
            due("shoe as " + as, x.taken(0, as), asShoe[as]);
        }
        due("shoe as a row", x.taken(0, 10), -13);
        due("row as its sort", x.taken(1, 11), 5);
        due("row as another", x.taken(1, 12), -13);
        due("row as a thing", x.taken(1, 0), -13);
        due("nothing", x.taken(2, 0), -11);
        due("nothing", x.taken(3, 13), -11);
        due("as 6", x.taken(0, 6), BAD);
        due("as 9", x.taken(0, 9), BAD);
        due("as 14", x.taken(0, 14), BAD);
        due("as -1", x.taken(0, -1), BAD);
        due("shelf 4", x.taken(4, 0), BAD);
        due("BAD before -11", x.taken(3, 7), BAD);
        x.sheet(2, 0, 9);
        due("the row that it was", x.taken(1, 11), 5);
        x.mind(1, VESSEL, 7);
        due("by its number", x.taken(0, 1), 1);
        x.shelf(0, 2, 0);
        due("emptied", x.taken(0, 1), -11);
        x.shelf(0, 0, 1);
        told("shoe in 1;");
        due("no such one at the time", x.taken(0, 0), -11);
        promise = 44;
        due("acts no more", x.act(0, 0, 5), 0);
        x.thing(VESSEL, 1, 1, 1);
        promise = 43;
        due("such a one again", x.taken(0, 0), 1);
        acts();
    }

    private static void actDue(int act, int arg, int want, int... trace) {
        promise = 44;
        due("act " + act + " of " + arg, x.act(0, act, arg), want);
        promise = 45;
        for (int i = 0; i < trace.length; i++) {
            due("trace " + i, x.trace(i), trace[i]);
        }
        due("behind the trace", x.trace(trace.length), NONE);
        due("before the trace", x.trace(-1), NONE);
        promise = 46;
        due("bodies", x.many(6), trace.length);
    }

    private static void acts() {
        fresh();
        // Number 1 and truth 3 with each kind.
        x.thing(THING, 9, 9, 0);
        x.thing(THING, 9, 3, 0);
        x.shelf(0, 0, 1);
        actDue(0, 5, 11, 10);
        actDue(1, 5, 30, 11, 10);
        actDue(2, 5, 2, 12);
        actDue(2, -5, -2, 12);
        actDue(3, 5, 88, 13, 11, 10);
        actDue(0, HIGH, -1, 10);
        x.mind(1, VESSEL, 3);
        actDue(1, 5, 38, 20, 11, 10);
        actDue(3, 5, 96, 13, 20, 11, 10);
        x.mind(1, RUBBISH, 3);
        actDue(0, 5, -11, 30, 10);
        actDue(1, 5, -36, 11, 30, 10);
        actDue(3, 5, (-36 ^ 70) - 0, 31, 13, 11, 30, 10, 12);
        x.mind(1, SHOE, 3);
        actDue(0, 5, -11 ^ 5, 40, 30, 10);
        // shows: sinks(5) * 3 - 3, and sinks(3) = -7 ^ 5 less
        int shows = (-11 ^ 5) * 3 - 3 - (-7 ^ 5);
        actDue(1, 5, shows, 41, 11, 40, 30, 10, 40, 30, 10);
        actDue(2, 5, 2, 12);
        actDue(3, 5, shows ^ 70, 31, 13, 41, 11, 40, 30, 10, 40, 30, 10, 12);
        x.mind(1, MOSAIC, 3);
        actDue(0, 5, 10, 51, 10);
        actDue(1, 5, 35, 20, 11, 51, 10);
        actDue(2, 5, 14, 50, 12);
        actDue(2, 6, 14, 50, 12);
        actDue(3, 5, 101, 13, 20, 11, 51, 10);
        x.mind(1, RUBBISH, 2);
        actDue(3, 5, (-35 ^ 70) - 1, 31, 13, 11, 30, 10, 12);
        x.mind(1, SAND, 3);
        actDue(2, 5, 2 ^ 3, 61, 12, 10);
        actDue(3, 5, 91, 60, 13, 11, 10);
        // Parted by 0: nothing more runs.
        x.mind(1, SAND, 1);
        actDue(2, 5, -15, 61, 12);
        x.mind(1, RUBBISH, 1);
        actDue(3, 5, -15, 31, 13, 11, 30, 10, 12);
        x.mind(1, MOSAIC, 1);
        actDue(2, 5, -15, 50, 12);
        x.mind(1, THING, 0);
        actDue(2, LOW, LOW, 12);
        promise = 44;
        due("shelf 4", x.act(4, 0, 1), 0);
        due("no trace then", x.many(6), 0);
        x.act(0, 1, 1);
        due("act 4", x.act(0, 4, 1), 0);
        due("no trace then", x.trace(0), NONE);
        x.act(0, 1, 1);
        due("act -1", x.act(0, -1, 1), 0);
        due("no trace then", x.many(6), 0);
        x.act(0, 1, 1);
        due("nothing", x.act(1, 0, 1), 0);
        due("no trace then", x.many(6), 0);
        x.act(0, 1, 1);
        x.sheet(0, 0, 1);
        x.shelf(2, 1, 0);
        due("a row", x.act(2, 0, 1), 0);
        due("no trace then", x.many(6), 0);
        x.take(1);
        due("a found one acts", x.act(0, 0, 1), 3);
        x.shelf(3, 0, 0);
        due("the last shelf", x.act(3, 0, 1), 2);
    }

    private static void manyKeepAgain() {
        promise = 46;
        fresh();
        for (int i = 0; i < 4; i++) {
            x.thing(THING, 9, 0, i / 2 * 5);
        }
        x.take(0);
        x.prove(1, 7);
        x.feed(0, 3);
        due("things", x.many(0), 4);
        due("that lie", x.many(1), 3);
        due("found", x.many(2), 1);
        due("pits", x.many(3), 2);
        due("rows", x.many(4), 7);
        due("bytes", x.many(5), 3);
        due("bodies", x.many(6), 0);
        due("7", x.many(7), BAD);
        due("-1", x.many(-1), BAD);

        promise = 47;
        x.seed(33);
        x.set(3, 44);
        x.bring(4);
        x.think(11);
        due("kept", x.keep(), 1);
        x.seed(0);
        x.set(3, 0);
        x.years(3);
        x.thing(SAND, 1, 1, 1);
        x.mind(1, SHOE, 9);
        x.lay(0, 0);
        x.value(2, 77);
        x.sheet(0, 0, 2);
        x.shelf(0, 0, 4);
        x.prove(0, 2);
        promise = 48;
        due("things", x.again(), 4);
        due("z", x.seed(33), 33);
        due("law", x.lawOf(3), 44);
        due("reader", x.state(2), 4);
        due("opinion", x.state(1), 11);
        due("year", x.state(0), 0);
        due("lying", x.state(3), 14);
        due("kind", x.of(1, 0), THING);
        due("worth", x.of(2, 1), 9);
        due("rows are not kept", x.many(4), 2);
        due("the tape neither", x.many(5), 3);
        due("sheets neither", x.item(0, 0, 1), 0);
        due("shelves neither: no such one now", x.taken(0, 0), -11);
        x.think(99);
        x.take(1);
        due("it stays kept", x.again(), 4);
        due("opinion again", x.state(1), 11);
        x.think(12);
        x.keep();
        x.think(13);
        x.again();
        due("the latest", x.state(1), 12);
        fresh();
        due("nothing is kept", x.again(), NONE);
        x.keep();
        due("an empty street is kept", x.again(), 0);
    }
}
