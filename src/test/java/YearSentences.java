/** Promises 16 to 24: years, years by draws, how all is, and when something is so first. */
final class YearSentences extends Sentences {
    YearSentences(Document document, Check check) {
        super(document, check);
    }

    @Override
    void all() {
        years();
        digs();
        opinions();
        seeds();
        drawnYears();
        slips();
        lucks();
        states();
        covers();
        thoughts();
        firsts();
        praises();
    }

    private void years() {
        says(16, "n YEARS (1 to 60): OPINION then", () -> {
            x.thing(THING, 90, 0, 2);
            due("years(1)", x.years(1), 50);
            due("YEAR", x.state(0), 1);
            due("years(60)", x.years(60), 59);
            due("YEAR", x.state(0), 61);
            due("OPINION", x.state(1), 59);
        });
        says(16, "BAD", () -> {
            for (int n : new int[] {LOW, -1, 0, 61, HIGH}) {
                refused("years(" + n + ")", BAD, y -> y.years(n));
            }
        });
        says(16, "(2) It goes to the next PIT", () -> {
            for (int pit = 1; pit <= 5; pit++) {
                x.years(1);
                due("AT", x.state(2), pit);
            }
        });
        says(16, "PITS 0 to 5 in a round (behind 5 comes 0)", () -> {
            x.bring(5);
            x.years(1);
            due("AT 0", x.state(2), 0);
            x.years(60);
            due("ten rounds", x.state(2), 0);
            x.years(59);
            due("AT 5", x.state(2), 5);
        });
        says(16, "YEAR is 1 more", () -> {
            for (int year = 1; year <= 7; year++) {
                x.years(1);
                due("YEAR", x.state(0), year);
            }
        });
    }

    private void digs() {
        says(16, "A YEAR: (1) THE READER digs, with as much strength as DIG tells", () -> {
            for (int strength = 0; strength <= 9; strength++) {
                SampleLayers one = new SampleLayers();
                one.set(DIG, strength);
                things(one, THING, 8, 0);
                one.years(1);
                due("found by " + strength, one.many(2), Math.min(8, strength));
            }
        });
        says(16, "while there is one in its PIT", () -> {
            x.set(DIG, 9);
            x.thing(THING, 90, 0, 0);
            x.thing(THING, 90, 0, 1);
            x.thing(THING, 90, 0, 5);
            due("one in PIT 0", x.years(1), 59);
            due("the others lie", x.state(3), 6);
            x.bring(2);
            due("none in PIT 2", x.years(1), 59);
            due("nor in PIT 3", x.years(1), 59);
        });
        says(16, "and the uppermost one HIDES no more than there is of strength yet", () -> {
            due("as much", foundBy(5, MOSAIC, 3), 1);
            due("1 more", foundBy(5, MOSAIC, 4), 0);
            due("1 less", foundBy(5, MOSAIC, 2), 1);
            due("most that one hides is too much", foundBy(9, MOSAIC, 9), 0);
            due("all of nine", foundBy(9, MOSAIC, 7), 1);
            due("0 by 0", foundBy(0, RUBBISH, 0), 1);
            due("1 by 0", foundBy(0, THING, 0), 0);
            due("2 by 1", foundBy(1, VESSEL, 0), 0);
            due("2 by 2", foundBy(2, SHOE, 0), 1);
            due("uppermost sand hides 1", foundBy(1, SAND, 9), 1);
        });
        says(16, "that one is FOUND", () -> {
            x.thing(THING, 10, 0, 0);
            x.thing(MOSAIC, 10, 9, 0);
            x.thing(THING, 10, 0, 0);
            x.years(1);
            due("the uppermost", x.of(2, 3), FOUND);
            due("the one that hides", x.of(1, 3), 0);
            due("the one beneath it", x.of(0, 3), 0);
        });
        says(16, "strength is as much less as it HIDES", () -> {
            x.set(DIG, 6);
            things(x, THING, 3, 0);
            x.thing(VESSEL, 0, 0, 0);
            x.thing(RUBBISH, 0, 0, 0);
            x.thing(SHOE, 0, 0, 0);
            x.years(1);
            due("2, 0, 2, 1, 1 of 6", x.state(3), 1);
        });
        says(16, "A YEAR:", () -> {
            x.thing(SAND, 77, 4, 0);
            x.thing(SAND, 77, 4, 1);
            due("YEAR 0 as THE READER digs", x.years(1), 57);
            due("YEAR 1 as THE READER digs", x.years(1), 53);
        });
    }

    private static void things(SampleLayers x, int kind, int many, int pit) {
        for (int i = 0; i < many; i++) {
            x.thing(kind, 10, 0, pit);
        }
    }

    /** How many are found, by a strength, of one in PIT 0. */
    private static int foundBy(int strength, int kind, int truth) {
        SampleLayers one = new SampleLayers();
        one.set(DIG, strength);
        one.thing(kind, 50, truth, 0);
        one.years(1);
        return one.many(2);
    }

    private void opinions() {
        says(16, "OPINION as much more as it SPEAKS (held to 0 to 99)", () -> {
            x.think(98);
            x.thing(THING, 10, 0, 0);
            due("to 99", x.years(1), 99);
            x.bring(0);
            x.lay(0, 0);
            due("no more", x.years(1), 99);
            x.think(1);
            x.mind(0, RUBBISH, 0);
            x.value(0, 19);
            x.bring(0);
            x.lay(0, 0);
            due("to 0", x.years(1), 0);
            x.bring(0);
            x.lay(0, 0);
            due("no less", x.years(1), 0);
        });
        says(16, "(held to 0 to 99)", () -> {
            x.set(DIG, 9);
            x.set(FILTH, 9);
            x.think(3);
            x.thing(THING, 25, 0, 0);
            x.thing(RUBBISH, 0, 0, 0);
            due("held to 0 at each", x.years(1), 2);
            x.bring(1);
            x.think(98);
            x.thing(RUBBISH, 0, 0, 1);
            x.thing(THING, 25, 0, 1);
            due("held to 99 at each", x.years(1), 90);
        });
    }

    private void seeds() {
        says(17, "z becomes v: what it was", () -> {
            int was = 1;
            for (int v : new int[] {LOW, HIGH, -1, 0, 7}) {
                due("seed(" + v + ")", x.seed(v), was);
                was = v;
            }
        });
        says(17, "z (an int; 1 at first)", () -> due("seed(3)", x.seed(3), 1));
    }

    private void drawnYears() {
        says(18, "A YEAR BY DRAWS: OPINION then", () -> {
            x.set(SLIP, 0);
            x.thing(THING, 70, 0, 0);
            due("year()", x.year(), 57);
            due("none then", x.year(), 57);
        });
        says(18, "A YEAR BY DRAWS: if there are THINGS, a draw", () -> {
            due("none", x.year(), 50);
            due("z stays", x.seed(1), 1);
            due("a YEAR", x.state(0) * 10 + x.state(2), 11);
            x.thing(THING, 10, 0, 3);
            x.take(0);
            x.year();
            due("one that is FOUND: two draws", x.seed(1), drawn(drawn(1)));
        });
        says(18, "DRAWS: z (an int; 1 at first) becomes z * 1103515245 + 12345", () -> {
            x.thing(THING, 10, 0, 3);
            x.set(SLIP, 0);
            for (int z : new int[] {LOW, -1, 0, 1, 65536, HIGH}) {
                x.seed(z);
                x.year();
                due("two draws from " + z, x.seed(0), drawn(drawn(z)));
            }
            x.seed(1);
            x.year();
            due("by hand", x.seed(0), 1103527590 * 1103515245 + 12345);
        });
        says(18, "then a YEAR", () -> {
            x.thing(THING, 90, 0, 3);
            x.set(SLIP, 99);
            int z = seedThatSlipsInto(0, 99);
            x.seed(z);
            due("laid before THE READER digs", x.year(), 59);
            due("YEAR", x.state(0), 1);
            due("THE READER", x.state(2), 1);
            due("FOUND", x.of(0, 3), FOUND);
        });
    }

    /** A seed from which the one thing slips into a pit, and what its second draw leaves is below slip. */
    private static int seedThatSlipsInto(int pit, int slip) {
        int z = 1;
        while (left(drawn(drawn(z)), 100) >= slip || left(drawn(drawn(drawn(z))), 6) != pit) {
            z++;
        }
        return z;
    }

    private void slips() {
        says(18, "the one that it leaves by how many there are", () -> oneByHowMany());
        says(18, "z >>> 16 is drawn", () -> {
            for (int z = -40; z < 40; z++) {
                laidAsDrawn(z * 7919, 7);
            }
        });
        says(18, "and one more: if what that leaves by 100 is below SLIP", () -> {
            x.thing(THING, 10, 0, 3);
            x.set(DIG, 0);
            int second = left(drawn(drawn(1)), 100);
            x.set(SLIP, second);
            x.year();
            due("as much as SLIP: two draws", x.seed(1), drawn(drawn(1)));
            due("it stays", x.of(0, 3), 3);
            x.set(SLIP, second + 1);
            x.year();
            due("below SLIP: three draws", x.seed(1), drawn(drawn(drawn(1))));
            due("it is laid", x.of(0, 3), left(drawn(drawn(drawn(1))), 6));
        });
        says(18, "3 SLIP (0 to 99 of a hundred; 20)", () -> {
            x.thing(THING, 10, 0, 3);
            x.set(DIG, 0);
            for (int slip : new int[] {0, 20, 99}) {
                x.set(SLIP, slip);
                for (int z = 0; z < 40; z++) {
                    x.seed(z);
                    x.year();
                    int behind = drawn(drawn(z));
                    due("SLIP " + slip, x.seed(0), left(behind, 100) < slip ? drawn(behind) : behind);
                }
            }
        });
        says(18, "and that one LIES", () -> {
            x.thing(THING, 10, 0, 3);
            x.take(0);
            x.set(SLIP, 99);
            int z = seedThatSlipsInto(2, 99);
            x.seed(z);
            x.year();
            due("no third draw", x.seed(0), drawn(drawn(z)));
            due("FOUND as before", x.of(0, 3), FOUND);
        });
        says(18, "it is laid above all in the PIT that a third draw leaves by 6 (drawn just then)", () -> {
            for (int pit = 0; pit < 6; pit++) {
                SampleLayers one = new SampleLayers();
                one.thing(THING, 10, 0, 3);
                one.set(DIG, 0);
                one.set(SLIP, 99);
                one.seed(seedThatSlipsInto(pit, 99));
                one.year();
                due("into " + pit, one.of(0, 3), pit);
            }
        });
    }

    /** Of three, five, six and eight things in PIT 3, some of them FOUND, the one drawn is laid. */
    private void oneByHowMany() {
        for (int many : new int[] {1, 2, 3, 5, 6, 8}) {
            for (int z = 1; z < 60; z++) {
                laidAsDrawn(z * 104729, many);
            }
        }
    }

    private void laidAsDrawn(int z, int many) {
        SampleLayers one = new SampleLayers();
        one.set(DIG, 0);
        one.set(SLIP, 99);
        for (int i = 0; i < many; i++) {
            one.thing(THING, 10, 0, 3);
        }
        one.take(many / 2);
        one.seed(z);
        one.year();
        int first = drawn(z);
        int second = drawn(first);
        int third = drawn(second);
        int which = left(first, many);
        if (left(second, 100) >= 99 || which == many / 2) {
            due("nothing is laid", one.pit(3, 0), (1 << many) - 1 - (1 << many / 2));
            due("two draws", one.seed(0), second);
            return;
        }
        due("uppermost in its pit", one.pit(left(third, 6), 1), which);
        due("the others stay", one.pit(3, 0) | 1 << which, (1 << many) - 1 - (1 << many / 2));
        due("three draws", one.seed(0), third);
    }

    private void lucks() {
        says(19, "LUCK (n 1 to 30)", () -> {
            for (int n = 1; n <= 30; n++) {
                SampleLayers one = luckyStreet();
                one.seed(n);
                int want = luckByYears(luckyStreet(), n, n);
                due("luck(" + n + ")", one.luck(n), want);
            }
        });
        says(19, "BAD", () -> {
            for (int n : new int[] {LOW, -1, 0, 31, HIGH}) {
                refused("luck(" + n + ")", BAD, y -> y.luck(n));
            }
        });
        says(19, "OPINION is more then than THOUGHT by 1", () -> {
            due("no THINGS: never more", x.luck(30), 0);
            x.thing(THING, 90, 0, 0);
            x.set(SLIP, 0);
            due("without slips as much as by 1", x.luck(30), 0);
            x.lay(0, 3);
            x.set(SLIP, 99);
            x.seed(seedThatSlipsInto(0, 99));
            due("a slip into PIT 0", x.luck(1), 1);
            x.lay(0, 1);
            due("THOUGHT by 2 counts nothing", x.luck(1), 1);
            x.value(0, 0);
            due("as much", x.luck(1), 0);
            x.mind(0, RUBBISH, 0);
            due("less", x.luck(1), 0);
        });
        says(19, "LUCK: in how many of n YEARS BY DRAWS, each tried from how all is now (z alone goes on)", () -> {
            x.thing(THING, 90, 0, 3);
            x.set(SLIP, 99);
            int z = 1;
            while (slipsIntoPit0(2, z) < 2) {
                z++;
            }
            x.seed(z);
            due("twice into PIT 0, from PIT 3", x.luck(2), 2);
            x.seed(5);
            due("of 30", x.luck(30), slipsIntoPit0(30, 5));
        });
        says(19, "(nothing changes, z neither)", () -> {
            unchanged("luck(30)", 0, y -> {
                makeRich(y);
                y.set(SLIP, 0);
            }, y -> y.luck(30));
            x.thing(THING, 90, 0, 3);
            x.seed(LOW);
            x.luck(30);
            due("seed(0)", x.seed(0), LOW);
            due("PIT", x.of(0, 3), 3);
        });
    }

    private static SampleLayers luckyStreet() {
        SampleLayers one = new SampleLayers();
        one.set(SLIP, 99);
        one.thing(THING, 90, 0, 0);
        one.thing(MOSAIC, 40, 9, 0);
        one.thing(VESSEL, 20, 0, 0);
        one.thing(THING, 80, 0, 3);
        return one;
    }

    private static int luckByYears(SampleLayers one, int n, int seed) {
        int plain = one.thought(1);
        int z = seed;
        int many = 0;
        one.keep();
        for (int i = 0; i < n; i++) {
            one.again();
            one.seed(z);
            many += one.year() > plain ? 1 : 0;
            z = one.seed(0);
        }
        return many;
    }

    /** How many of n years of one thing, with slips of 99 of a hundred, bring it into PIT 0. */
    private static int slipsIntoPit0(int n, int seed) {
        int z = seed;
        int many = 0;
        for (int i = 0; i < n; i++) {
            z = drawn(drawn(z));
            if (left(z, 100) < 99) {
                z = drawn(z);
                many += left(z, 6) == 0 ? 1 : 0;
            }
        }
        return many;
    }

    private void states() {
        says(20, "What = 0 YEAR, 1 OPINION, 2 the PIT of THE READER", () -> {
            x.think(12);
            x.years(3);
            due("YEAR", x.state(0), 3);
            due("OPINION", x.state(1), 12);
            x.bring(5);
            due("PIT", x.state(2), 5);
        });
        says(20, "3 those that LIE, as a set", () -> {
            due("none", x.state(3), 0);
            things(x, THING, 8, 2);
            due("eight", x.state(3), 255);
            x.take(0);
            x.take(7);
            due("six", x.state(3), 126);
            x.lay(7, 5);
            due("seven", x.state(3), 254);
        });
        says(20, "4 WORTH of all that LIE together", () -> {
            due("none", x.state(4), 0);
            for (int i = 0; i < 8; i++) {
                x.thing(THING, 99, 0, i % 6);
            }
            due("eight", x.state(4), 792);
            x.take(7);
            due("seven", x.state(4), 693);
            x.take(0);
            x.value(1, 1);
            due("six", x.state(4), 496);
            Tapes.tell(x, "thing in 2 worth 7;");
            due("one alone", x.state(4), 7);
        });
        says(20, "BAD", () -> {
            for (int what : new int[] {LOW, -1, 6, HIGH}) {
                refused("state(" + what + ")", BAD, y -> y.state(what));
            }
        });
        says(20, "5 COVER, as a set", () -> {
            due("none", x.state(5), 0);
            x.thing(THING, 0, 0, 5);
            due("PIT 5", x.state(5), 32);
            unchanged("state(5)", 22, y -> y.state(5));
        });
    }

    private void covers() {
        says(20, "COVER: the set of fewest PITS in which together one of each KIND LIES of which any LIES "
            + "at all", () -> {
                x.thing(THING, 0, 0, 0);
                x.thing(VESSEL, 0, 0, 1);
                due("two", x.state(5), 3);
                x.thing(THING, 0, 0, 4);
                x.thing(VESSEL, 0, 0, 4);
                due("one, though of higher number", x.state(5), 16);
                x.take(2);
                due("one of them found", x.state(5), 3);
                x.take(0);
                due("no thing lies any more", x.state(5), 2);
            });
        says(20, "one of each KIND", () -> {
            for (int kind = 0; kind < 6; kind++) {
                x.thing(kind, 0, 0, 5 - kind);
            }
            due("all six", x.state(5), 63);
            x.thing(MOSAIC, 0, 0, 4);
            due("a mosaic, and a vessel, in PIT 4", x.state(5), 63 - 4);
            x.mind(1, MOSAIC, 0);
            x.mind(6, THING, 0);
            due("no vessel lies: a mosaic is none", x.state(5), 63 - 4 - 32);
        });
        says(20, "of several the least (0, if none LIES)", () -> {
            things(x, SAND, 1, 5);
            things(x, SAND, 1, 3);
            due("3 or 5", x.state(5), 8);
            things(x, SHOE, 1, 5);
            things(x, SHOE, 1, 4);
            things(x, SAND, 1, 4);
            due("4 or 5", x.state(5), 16);
            for (int i = 0; i < 5; i++) {
                x.take(i);
            }
            due("none", x.state(5), 0);
        });
    }

    private void thoughts() {
        says(21, "THOUGHT by n (0 to 60)", () -> {
            x.thing(THING, 90, 0, 5);
            x.thing(VESSEL, 90, 0, 5);
            due("0", x.thought(0), 50);
            due("5", x.thought(5), 50);
            due("6", x.thought(6), 70);
            due("60", x.thought(60), 70);
        });
        says(21, "THOUGHT by n: OPINION behind n YEARS", () -> {
            for (int n = 1; n <= 60; n++) {
                SampleLayers one = new SampleLayers();
                makeRich(one);
                long thought = one.thought(n);
                due("by " + n, one.years(n), thought);
            }
        });
        says(21, "What is asked here is TRIED; nothing changes", () -> {
            unchanged("thought(0)", 41, y -> y.thought(0));
            unchanged("thought(60)", 62, y -> y.thought(60));
        });
        says(21, "BAD", () -> {
            for (int n : new int[] {LOW, -1, 61, HIGH}) {
                refused("thought(" + n + ")", BAD, y -> y.thought(n));
            }
        });
    }

    private void firsts() {
        says(22, "DUG: behind the fewest YEARS (0 to 60) a THING is FOUND first", () -> {
            eightBelowOneAnother(x);
            for (int i = 0; i < 8; i++) {
                due("dug(" + i + ")", x.dug(i), 48 - 6 * i);
            }
            x.take(7);
            due("FOUND now", x.dug(7), 0);
            due("the one beneath it, then", x.dug(6), 6);
        });
        says(22, "DUG", () -> {
            unchanged("dug(0)", 5, y -> y.dug(0));
            unchanged("dug(4), FOUND", 0, y -> y.dug(4));
        });
        says(22, "BAD", () -> {
            for (int thing : new int[] {LOW, -1, 6, 8, HIGH}) {
                refused("dug(" + thing + ")", BAD, y -> y.dug(thing));
            }
        });
        says(22, "NONE: not by then", () -> {
            refused("what hides too deep", NONE, y -> y.dug(2));
            eightBelowOneAnother(x);
            x.mind(3, MOSAIC, 0);
            due("beneath what hides too deep", x.dug(2), NONE);
            due("above it", x.dug(4), 24);
        });
        says(23, "EMPTY: behind the fewest (0 to 60) none LIES first", () -> {
            due("no THINGS", x.empty(), 0);
            eightBelowOneAnother(x);
            due("the last one", x.empty(), 48);
            x.take(0);
            due("the last but one", x.empty(), 42);
            for (int i = 1; i < 8; i++) {
                x.take(i);
            }
            due("all FOUND", x.empty(), 0);
        });
        says(23, "EMPTY", () -> {
            unchanged("empty()", 11, y -> {
                makeRich(y);
                y.take(2);
            }, y -> y.empty());
        });
        says(23, "NONE: not by then", () -> {
            x.thing(MOSAIC, 1, 2, 1);
            due("one hides too deep", x.empty(), NONE);
            refused("empty()", NONE, y -> y.empty());
            x.set(DIG, 4);
            due("not too deep now", x.empty(), 2);
        });
    }

    /** With a strength of 1, the uppermost of eight in PIT 5 is found behind 6 years, the lowest behind 48. */
    private static void eightBelowOneAnother(SampleLayers x) {
        x.set(DIG, 1);
        things(x, THING, 8, 5);
    }

    private void praises() {
        says(24, "PRAISED by v: behind the fewest (0 to 60) OPINION is v or more first", () -> {
            eightBelowOneAnother(x);
            due("as much now", x.praised(50), 0);
            due("less now", x.praised(0), 0);
            for (int v = 51; v <= 58; v++) {
                due("praised(" + v + ")", x.praised(v), 6 * (v - 50));
            }
            x.value(7, 99);
            due("9 at once", x.praised(51), 6);
            due("9 at once", x.praised(59), 6);
        });
        says(24, "PRAISED by v (0 to 99)", () -> {
            x.think(99);
            due("99", x.praised(99), 0);
            x.think(0);
            due("0", x.praised(0), 0);
            x.think(98);
            due("not yet", x.praised(99), NONE);
            unchanged("praised(41)", 0, y -> y.praised(41));
        });
        says(24, "OPINION is v or more first", () -> {
            x.thing(THING, 50, 0, 1);
            x.thing(RUBBISH, 0, 0, 2);
            due("though it is less later", x.praised(55), 2);
            due("OPINION later", x.thought(3), 53);
        });
        says(24, "BAD", () -> {
            for (int v : new int[] {LOW, -1, 100, HIGH}) {
                refused("praised(" + v + ")", BAD, y -> y.praised(v));
            }
        });
        says(24, "NONE: not by then", () -> {
            eightBelowOneAnother(x);
            due("59", x.praised(59), NONE);
            refused("99", NONE, y -> y.praised(99));
        });
    }
}
