/** Promises 42 to 48: shelves, acts and their trace, how many, and what is kept. */
final class ActSentences extends Sentences {
    ActSentences(Document document, Check check) {
        super(document, check);
    }

    @Override
    void all() {
        shelves();
        shelvesChange();
        shelvesRefused();
        taken();
        takenRefused();
        bodies();
        bodiesUnder();
        wraps();
        partings();
        actsRefused();
        traces();
        manys();
        keeps();
        agains();
        calls();
    }

    private void shelves() {
        says(42, "A SHELF holds one of the THINGS (what 0, its number n), the row of SHEET n (1; nothing, if missing), "
            + "nothing (2): 1", () -> {
                x.thing(SHOE, 0, 0, 0);
                x.sheet(3, SHORTS, 4);
                for (int shelf = 0; shelf < 4; shelf++) {
                    due("a thing", x.shelf(shelf, 0, 0), 1);
                    due("its number", x.taken(shelf, SHOE), 0);
                    due("a row", x.shelf(shelf, 1, 3), 1);
                    due("its items", x.taken(shelf, 10 + SHORTS), 4);
                    due("no thing any more", x.taken(shelf, SHOE), ANOTHER);
                    due("a thing again", x.shelf(shelf, 0, 0), 1);
                    due("no row any more", x.taken(shelf, 10 + SHORTS), ANOTHER);
                    due("its number again", x.taken(shelf, SHOE), 0);
                    due("nothing", x.shelf(shelf, 2, HIGH), 1);
                    due("nothing", x.taken(shelf, SHOE), NOTHING);
                }
            });
        says(42, "(1; nothing, if missing)", () -> {
            x.thing(SHOE, 0, 0, 0);
            x.shelf(0, 0, 0);
            due("the row of a missing SHEET", x.shelf(0, 1, 2), 1);
            due("nothing in place of a thing", x.taken(0, SHOE), NOTHING);
            x.sheet(1, BYTES, 0);
            x.shelf(0, 1, 1);
            due("a row of none is a row", x.taken(0, 10), 0);
            x.sheet(1, MISSING, 0);
            x.shelf(0, 1, 1);
            due("nothing in place of a row", x.taken(0, 10), NOTHING);
        });
        says(42, "nothing (2)", () -> {
            x.sheet(1, LONGS, 7);
            x.shelf(0, 1, 1);
            x.shelf(1, 1, 1);
            for (int n : new int[] {LOW, -1, 0, 4, 8, HIGH}) {
                due("shelf(0, 2, " + n + ")", x.shelf(0, 2, n), 1);
                due("nothing", x.taken(0, 13), NOTHING);
            }
            due("the other SHELF holds its row yet", x.taken(1, 13), 7);
        });
    }

    private void shelvesChange() {
        says(42, "SHELVES 0 to 3 hold one of the THINGS (by its number; nothing, if there is no such one at the "
            + "time), a SHEET's row, or nothing (at first)", () -> {
                x.thing(SHOE, 0, 0, 0);
                x.thing(SHOE, 0, 0, 0);
                x.shelf(0, 0, 1);
                x.mind(1, SAND, 0);
                due("of its KIND at the time", x.taken(0, SAND), 1);
                due("no shoe any more", x.taken(0, SHOE), ANOTHER);
                x.take(1);
                due("one that is FOUND", x.taken(0, SAND), 1);
                Tapes.tell(x, "vessel in 1;");
                due("no such one at the time", x.taken(0, SAND), NOTHING);
                due("it acts no more", x.act(0, SINKS, 1), 0);
                x.thing(MOSAIC, 0, 0, 0);
                due("such a one again", x.taken(0, VESSEL), 1);
            });
        says(42, "a SHEET's row", () -> {
            x.sheet(0, INTS, 5);
            x.shelf(0, 1, 0);
            x.put(0, 0, 9);
            due("an item changes", x.taken(0, 10 + INTS), 5);
            x.sheet(0, BYTES, 3);
            due("the SHEET becomes another row", x.taken(0, 10 + INTS), 5);
            x.sheet(0, MISSING, 0);
            due("the SHEET is missing", x.taken(0, 10 + INTS), 5);
        });
    }

    private void shelvesRefused() {
        says(42, "BAD: no such SHELF, what, thing", () -> {
            for (int shelf : new int[] {LOW, -1, 4, HIGH}) {
                refused("shelf(" + shelf + ", 0, 0)", BAD, y -> y.shelf(shelf, 0, 0));
                refused("shelf(" + shelf + ", 1, 0)", BAD, y -> y.shelf(shelf, 1, 0));
                refused("shelf(" + shelf + ", 2, 0)", BAD, y -> y.shelf(shelf, 2, 0));
            }
            for (int what : new int[] {LOW, -1, 3, HIGH}) {
                refused("shelf(0, " + what + ", 0)", BAD, y -> y.shelf(0, what, 0));
            }
            for (int thing : new int[] {LOW, -1, 6, 8, HIGH}) {
                refused("shelf(0, 0, " + thing + ")", BAD, y -> y.shelf(0, 0, thing));
            }
        });
        says(42, "BAD (-1) there is no such thing, or a number is not as told", () -> {
            for (int sheet : new int[] {LOW, -1, 4, HIGH}) {
                refused("shelf(0, 1, " + sheet + ")", BAD, y -> y.shelf(0, 1, sheet));
            }
        });
    }

    private void taken() {
        says(43, "What a SHELF holds taken for a thing of KIND as (0 to 5, or one under it): its number", () -> {
            int[][] over = {{0}, {0, 1}, {0, 2}, {0, 1, 3}, {0, 2, 4}, {0, 5}};
            x.thing(THING, 0, 0, 0);
            x.thing(THING, 0, 0, 0);
            x.shelf(3, 0, 1);
            for (int kind = 0; kind < 6; kind++) {
                x.mind(1, kind, 0);
                int isOver = 0;
                for (int as : over[kind]) {
                    isOver |= 1 << as;
                }
                for (int as = 0; as < 6; as++) {
                    due("kind " + kind + " taken for " + as, x.taken(3, as), (isOver >> as & 1) == 1 ? 1 : ANOTHER);
                }
            }
        });
        says(43, "for a row of sort as - 10 (as 10 to 13): how many items", () -> {
            for (int sort = BYTES; sort <= LONGS; sort++) {
                for (int n : new int[] {0, 1, 40}) {
                    x.sheet(sort, sort, n);
                    x.shelf(sort, 1, sort);
                    for (int as = BYTES; as <= LONGS; as++) {
                        due(n + " of sort " + sort + " taken for " + as, x.taken(sort, 10 + as),
                            as == sort ? n : ANOTHER);
                    }
                }
            }
        });
    }

    private void takenRefused() {
        says(43, "BAD: no such SHELF, as", () -> {
            for (int shelf : new int[] {LOW, -1, 4, HIGH}) {
                refused("taken(" + shelf + ", 0)", BAD, y -> y.taken(shelf, 0));
                refused("taken(" + shelf + ", 10)", BAD, y -> y.taken(shelf, 10));
            }
            for (int as : new int[] {LOW, -1, 6, 7, 8, 9, 14, HIGH}) {
                refused("a thing as " + as, BAD, y -> y.taken(0, as));
                refused("a row as " + as, BAD, y -> y.taken(1, as));
                refused("nothing as " + as, BAD, y -> y.taken(2, as));
            }
        });
        says(43, "-11", () -> {
            for (int as : new int[] {0, 1, 2, 3, 4, 5, 10, 11, 12, 13}) {
                refused("nothing as " + as, NOTHING, y -> y.taken(2, as));
            }
        });
        says(43, "-13", () -> {
            for (int as : new int[] {1, 3, 5, 10, 11, 12, 13}) {
                refused("a shoe as " + as, ANOTHER, y -> y.taken(0, as));
            }
            for (int as : new int[] {0, 1, 2, 3, 4, 5, 10, 12, 13}) {
                refused("shorts as " + as, ANOTHER, y -> y.taken(1, as));
            }
        });
    }

    /** An act of thing 1, of a kind and a truth: its answer and its trace. */
    private void actDue(int kind, int truth, int act, int with, int want, int... trace) {
        if (x.many(0) == 0) {
            x.thing(THING, 0, 0, 0);
            x.thing(THING, 0, 0, 0);
            x.shelf(2, 0, 1);
        }
        x.mind(1, kind, truth);
        String call = "act " + act + " of kind " + kind + ", truth " + truth + ", with " + with;
        due(call, x.act(2, act, with), want);
        due("bodies of " + call, x.many(6), trace.length);
        for (int i = 0; i < trace.length; i++) {
            due("trace(" + i + ") of " + call, x.trace(i), trace[i]);
        }
        due("behind the trace of " + call, x.trace(trace.length), NONE);
    }

    private void bodies() {
        says(44, "An ACT (0 to 3) of the thing on a SHELF, with x", () -> actDue(THING, 4, SINKS, 7, 15, 10));
        says(44, "n: the number, a: TRUTH. BODIES, each with its number: thing: 10 sinks: x * 2 + n", () -> {
            actDue(THING, 9, SINKS, 0, 1, 10);
            actDue(THING, 9, SINKS, -8, -15, 10);
            x.shelf(2, 0, 0);
            due("of number 0", x.act(2, SINKS, 7), 14);
        });
        says(44, "11 shows: sinks(x) * 3 - a", () -> {
            actDue(THING, 9, SHOWS, 5, 24, 11, 10);
            actDue(THING, 0, SHOWS, 5, 33, 11, 10);
        });
        says(44, "12 parts: x by (a - n), cut", () -> {
            actDue(THING, 3, PARTS, 5, 2, 12);
            actDue(THING, 3, PARTS, -5, -2, 12);
            actDue(THING, 0, PARTS, 5, -5, 12);
            actDue(THING, 9, PARTS, 7, 0, 12);
            actDue(THING, 9, PARTS, -7, 0, 12);
            actDue(THING, 9, PARTS, -8, -1, 12);
        });
        says(44, "Quotients are cut towards 0", () -> actDue(THING, 5, PARTS, -7, -1, 12));
        says(44, "13 asks: shows(x) ^ 70", () -> actDue(THING, 3, ASKS, 5, 30 ^ 70, 13, 11, 10));
        says(44, "vessel: 20 shows: super.shows(x) + 8", () -> {
            actDue(VESSEL, 3, SHOWS, 5, 38, 20, 11, 10);
            actDue(VESSEL, 3, ASKS, 5, 38 ^ 70, 13, 20, 11, 10);
            actDue(VESSEL, 3, SINKS, 5, 11, 10);
            actDue(VESSEL, 3, PARTS, 5, 2, 12);
        });
        says(44, "rubbish: 30 sinks: 0 - super.sinks(x)", () -> {
            actDue(RUBBISH, 3, SINKS, 5, -11, 30, 10);
            actDue(RUBBISH, 3, SHOWS, 5, -36, 11, 30, 10);
            actDue(RUBBISH, 3, PARTS, 5, 2, 12);
        });
        says(44, "31 asks: super.asks(x) - parts(n)", () -> {
            actDue(RUBBISH, 2, ASKS, 5, (-35 ^ 70) - 1, 31, 13, 11, 30, 10, 12);
            actDue(RUBBISH, 0, ASKS, 5, (-33 ^ 70) + 1, 31, 13, 11, 30, 10, 12);
        });
    }

    private void bodiesUnder() {
        says(44, "shoe: 40 sinks: super.sinks(x) ^ 5", () -> actDue(SHOE, 3, SINKS, 5, -11 ^ 5, 40, 30, 10));
        says(44, "41 shows: super.shows(x) - sinks(a)", () -> {
            int shows = (-11 ^ 5) * 3 - 3 - (-7 ^ 5);
            actDue(SHOE, 3, SHOWS, 5, shows, 41, 11, 40, 30, 10, 40, 30, 10);
            actDue(SHOE, 3, ASKS, 5, shows ^ 70, 31, 13, 41, 11, 40, 30, 10, 40, 30, 10, 12);
            actDue(SHOE, 3, PARTS, 9, 4, 12);
        });
        says(44, "mosaic: 50 parts: super.parts(x + 9) * 2", () -> {
            actDue(MOSAIC, 3, PARTS, 5, 14, 50, 12);
            actDue(MOSAIC, 3, PARTS, 6, 14, 50, 12);
            actDue(MOSAIC, 3, PARTS, -9, 0, 50, 12);
        });
        says(44, "51 sinks: super.sinks(x) - n", () -> {
            actDue(MOSAIC, 3, SINKS, 5, 10, 51, 10);
            actDue(MOSAIC, 3, SHOWS, 5, 35, 20, 11, 51, 10);
            actDue(MOSAIC, 3, ASKS, 5, 35 ^ 70, 13, 20, 11, 51, 10);
        });
        says(44, "sand: 60 asks: super.asks(x) + a", () -> {
            actDue(SAND, 3, ASKS, 5, (30 ^ 70) + 3, 60, 13, 11, 10);
            actDue(SAND, 0, ASKS, 5, 33 ^ 70, 60, 13, 11, 10);
            actDue(SAND, 3, SINKS, 5, 11, 10);
            actDue(SAND, 3, SHOWS, 5, 30, 11, 10);
        });
        says(44, "61 parts: super.parts(x) ^ sinks(n)", () -> {
            actDue(SAND, 3, PARTS, 5, 2 ^ 3, 61, 12, 10);
            actDue(SAND, 3, PARTS, -5, -2 ^ 3, 61, 12, 10);
        });
        says(44, "ACTS of things, with a number x (ints that wrap): 0 sinks, 1 shows, 2 parts, 3 asks", () -> {
            actDue(THING, 3, 0, 4, 9, 10);
            actDue(THING, 3, 1, 4, 24, 11, 10);
            actDue(THING, 3, 2, 4, 2, 12);
            actDue(THING, 3, 3, 4, 24 ^ 70, 13, 11, 10);
        });
        says(44, "One of the THINGS is held as a thing of the KIND", () -> {
            actDue(SHOE, 3, SINKS, 5, -11 ^ 5, 40, 30, 10);
            actDue(THING, 3, SINKS, 5, 11, 10);
            x.take(1);
            due("one that is FOUND acts too", x.act(2, SINKS, 5), 11);
        });
    }

    private void wraps() {
        says(44, "(ints that wrap)", () -> {
            actDue(THING, 3, SINKS, HIGH, -1, 10);
            actDue(THING, 3, SINKS, LOW, 1, 10);
            actDue(THING, 3, SHOWS, HIGH, -6, 11, 10);
            actDue(THING, 3, SHOWS, 1 << 30, (LOW + 1) * 3 - 3, 11, 10);
            actDue(RUBBISH, 3, SINKS, LOW, -1, 30, 10);
            actDue(MOSAIC, 3, PARTS, HIGH, (LOW + 8) / 2 * 2, 50, 12);
            actDue(MOSAIC, 2, PARTS, HIGH - 9, -2, 50, 12);
            actDue(THING, 0, PARTS, LOW, LOW, 12);
            actDue(THING, 0, PARTS, HIGH, -HIGH, 12);
            actDue(SAND, 0, PARTS, LOW, LOW ^ 3, 61, 12, 10);
        });
    }

    private void partings() {
        says(44, "(-15 if these are the same; that is all that act() answers then)", () -> {
            actDue(THING, 1, PARTS, 5, -15, 12);
            actDue(THING, 1, PARTS, 0, -15, 12);
            actDue(SAND, 1, PARTS, 5, -15, 61, 12);
            actDue(MOSAIC, 1, PARTS, 5, -15, 50, 12);
            actDue(RUBBISH, 1, ASKS, 5, -15, 31, 13, 11, 30, 10, 12);
            actDue(SHOE, 1, ASKS, 5, -15, 31, 13, 41, 11, 40, 30, 10, 40, 30, 10, 12);
            actDue(THING, 1, SINKS, 5, 11, 10);
            actDue(THING, 2, PARTS, 5, 5, 12);
        });
        says(44, "-15 parted by 0", () -> {
            x.thing(MOSAIC, 0, 0, 0);
            x.shelf(0, 0, 0);
            due("0 by (0 - 0)", x.act(0, PARTS, -9), PARTED_BY_NONE);
            due("asks nothing of it", x.act(0, ASKS, 0), 8 ^ 70);
        });
    }

    private void actsRefused() {
        says(44, "0, and no TRACE then: no such SHELF, act, nothing, a row", () -> {
            for (int shelf : new int[] {LOW, -1, 4, HIGH}) {
                noTrace("act(" + shelf + ", 0, 5)", shelf, 0);
            }
            for (int act : new int[] {LOW, -1, 4, HIGH}) {
                noTrace("act(0, " + act + ", 5)", 0, act);
            }
            noTrace("nothing", 2, 0);
            noTrace("a row", 1, 0);
        });
        says(44, "nothing, a row", () -> {
            x.sheet(0, BYTES, 0);
            x.shelf(0, 1, 0);
            due("a row of none", x.act(0, SINKS, 5), 0);
            due("never put on", x.act(3, SINKS, 5), 0);
            due("no TRACE", x.many(6), 0);
        });
    }

    /** But for THE TRACE nothing changes by an act that there is not. */
    private void noTrace(String call, int shelf, int act) {
        SampleLayers one = new SampleLayers();
        makeRich(one);
        due("THE TRACE ahead of " + call, one.many(6), 8);
        due(call, one.act(shelf, act, 5), 0);
        due("many(6) behind " + call, one.many(6), 0);
        due("trace(0) behind " + call, one.trace(0), NONE);
        SampleLayers other = new SampleLayers();
        makeRich(other);
        due("the act behind " + call, one.act(0, SHOWS, 5), other.act(0, SHOWS, 5));
        sameAs("all but THE TRACE behind " + call, Sentences::makeRich, one);
    }

    private void traces() {
        says(45, "THE TRACE's i-th body", () -> {
            actDue(SHOE, 3, ASKS, 5, ((-11 ^ 5) * 3 - 3 - (-7 ^ 5)) ^ 70, 31, 13, 41, 11, 40, 30, 10, 40, 30, 10, 12);
            due("the first one", x.trace(0), 31);
            due("the last one", x.trace(10), 12);
        });
        says(45, "THE TRACE: numbers of the bodies that ran in the latest act(), as they began (left first)", () -> {
            actDue(SHOE, 3, ASKS, 5, ((-11 ^ 5) * 3 - 3 - (-7 ^ 5)) ^ 70, 31, 13, 41, 11, 40, 30, 10, 40, 30, 10, 12);
            actDue(THING, 3, SINKS, 5, 11, 10);
            x.mind(1, SHOE, 5);
            x.years(1);
            x.shelf(2, 2, 0);
            due("stays as the latest act() left it", x.trace(0), 10);
            due("one body", x.many(6), 1);
        });
        says(45, "the first 30 are kept", () -> {
            for (int kind = 0; kind < 6; kind++) {
                for (int act = 0; act < 4; act++) {
                    SampleLayers one = new SampleLayers();
                    one.thing(kind, 0, 3, 0);
                    one.shelf(0, 0, 0);
                    one.act(0, act, 1);
                    holds("no act has more than 30", one.many(6) <= 30);
                    due("the last one is kept", one.trace(one.many(6) - 1) > 0 ? 1 : 0, 1);
                    due("none behind it", one.trace(one.many(6)), NONE);
                }
            }
        });
        says(45, "NONE", () -> {
            due("none yet", x.trace(0), NONE);
            for (int i : new int[] {LOW, -1, 8, 29, 30, 31, HIGH}) {
                refused("trace(" + i + ")", NONE, y -> y.trace(i));
            }
        });
    }

    private void manys() {
        says(46, "How many: what = 0 THINGS, 1 those that LIE, 2 those FOUND, 3 PITS in which one LIES", () -> {
            manyDue(0, 0, 0, 0);
            for (int i = 0; i < 8; i++) {
                x.thing(THING, 0, 0, Math.min(i, 5));
                manyDue(i + 1, i + 1, 0, Math.min(i + 1, 6));
            }
            x.take(7);
            manyDue(8, 7, 1, 6);
            x.take(6);
            x.take(5);
            manyDue(8, 5, 3, 5);
            x.lay(0, 1);
            manyDue(8, 5, 3, 4);
            Tapes.tell(x, "thing in 5;");
            manyDue(1, 1, 0, 1);
        });
        says(46, "4 ROWS", () -> {
            x.thing(THING, 0, 0, 0);
            x.prove(0, 10);
            due("ten", x.many(4), 10);
            x.prove(0, 1);
            due("one", x.many(4), 1);
        });
        says(46, "5 bytes of THE TAPE", () -> {
            x.feed(0, 7);
            due("seven", x.many(5), 7);
            x.street();
            due("used up", x.many(5), 0);
        });
        says(46, "6 bodies of THE TRACE (those kept, 30 at most)", () -> {
            actDue(SHOE, 3, SINKS, 5, -11 ^ 5, 40, 30, 10);
            due("three", x.many(6), 3);
            x.act(0, 0, 0);
            due("none", x.many(6), 0);
        });
        says(46, "BAD: another what", () -> {
            for (int what : new int[] {LOW, -1, 7, 8, HIGH}) {
                refused("many(" + what + ")", BAD, y -> y.many(what));
            }
        });
    }

    private void manyDue(int things, int lying, int found, int pits) {
        due("THINGS", x.many(0), things);
        due("those that LIE", x.many(1), lying);
        due("those FOUND", x.many(2), found);
        due("PITS", x.many(3), pits);
    }

    private void keeps() {
        says(47, "All but THE TAPE, ROWS, SHEETS, SHELVES, THE TRACE is kept: 1", () -> {
            makeRich(x);
            due("keep()", x.keep(), 1);
            spoil();
            x.again();
            sameAs("all as it was", y -> {
                makeRich(y);
                y.keep();
            }, x);
        });
        says(47, "THE TAPE, ROWS, SHEETS, SHELVES, THE TRACE", () -> {
            makeRich(x);
            x.prove(0, 1);
            x.sheet(0, MISSING, 0);
            x.put(1, 0, 9);
            x.shelf(0, 2, 0);
            x.act(3, SINKS, 1);
            x.feed(0x3b3030L, 3);
            x.again();
            due("THE TAPE", x.many(5), 9);
            due("ROWS", x.many(4), 1);
            due("a SHEET", x.item(0, BYTES, 0), NOTHING);
            due("another SHEET", x.item(1, SHORTS, 0), 9);
            due("a SHELF", x.taken(0, 0), NOTHING);
            due("THE TRACE", x.trace(0), 10);
        });
        says(47, "kept: 1", () -> {
            due("nothing of a new object", x.keep(), 1);
            x.thing(THING, 0, 0, 0);
            due("again()", x.again(), 0);
            due("no THINGS", x.many(0), 0);
        });
    }

    /** All that is kept becomes other than it was; what is not kept stays. */
    private void spoil() {
        for (int law = 0; law < 4; law++) {
            x.set(law, 9);
        }
        for (int thing = 0; thing < 6; thing++) {
            x.mind(thing, THING, 8);
            x.value(thing, 1);
            x.lay(thing, 5);
        }
        x.thing(SAND, 8, 8, 5);
        x.take(0);
        x.years(3);
        x.year();
        x.bring(2);
        x.think(0);
        x.seed(12345);
    }

    private void agains() {
        says(48, "It becomes what was kept latest (which stays): how many THINGS", () -> {
            x.thing(SHOE, 5, 5, 5);
            x.keep();
            x.thing(SHOE, 6, 6, 1);
            x.think(1);
            x.keep();
            x.thing(SHOE, 7, 7, 1);
            x.think(2);
            due("the latest", x.again(), 2);
            due("OPINION", x.state(1), 1);
            x.think(3);
            x.value(1, 99);
            x.take(0);
            due("it stays", x.again(), 2);
            due("OPINION again", x.state(1), 1);
            due("WORTH again", x.of(1, 1), 6);
            due("lies again", x.of(0, 3), 5);
            Tapes.tell(x, "dig 1;");
            due("a street told leaves it", x.again(), 2);
            due("DIG", x.lawOf(DIG), 3);
        });
        says(48, "(which stays)", () -> {
            x.thing(THING, 0, 0, 0);
            x.thing(THING, 0, 0, 0);
            x.keep();
            for (int i = 0; i < 3; i++) {
                x.lay(0, 0);
                x.years(6);
                x.again();
                due("what lies above", x.above(0), 2);
                due("what is FOUND behind 1 with strength 1", foundFirst(), 2);
                x.again();
            }
        });
        says(48, "NONE: nothing is kept", () -> {
            due("again()", x.again(), NONE);
            refused("again()", NONE, y -> {
                y.thing(SAND, 1, 2, 3);
                y.prove(0, 2);
                y.feed(0, 3);
            }, y -> y.again());
        });
    }

    /** The set of those FOUND behind a year with a strength of 1. */
    private int foundFirst() {
        x.set(DIG, 1);
        x.years(1);
        return 3 & ~x.state(3);
    }

    private void calls() {
        says(48, "how many THINGS", () -> {
            makeRich(x);
            for (int i = 0; i < 440; i++) {
                x.awayFor(20, 99);
            }
            due("of its 512 calls a late one", x.again(), 6);
        });
    }
}
