/** Promises 34 to 41: rows and their reader, and sheets. */
final class RowSentences extends Sentences {
    private static final int NO_ROW = -9;

    RowSentences(Document document, Check check) {
        super(document, check);
    }

    @Override
    void all() {
        proofs();
        rows();
        altered();
        judged();
        sheets();
        sheetsRefused();
        puts();
        items();
        minds();
        mindsRefused();
    }

    private void rowDue(int i, int lies, int opinion, int pit) {
        due("row(" + i + ", 0)", x.row(i, 0), lies);
        due("row(" + i + ", 1)", x.row(i, 1), opinion);
        due("row(" + i + ", 2)", x.row(i, 2), pit);
    }

    private void proofs() {
        says(34, "ROWS of one by n YEARS (1 to 10): how many", () -> {
            x.thing(THING, 90, 0, 1);
            for (int n = 10; n >= 1; n--) {
                due("prove(0, " + n + ")", x.prove(0, n), n);
                due("many(4)", x.many(4), n);
                due("the last one", x.row(n - 1, 2), n % 6);
                due("none behind it", x.row(n, 0), NO_ROW);
            }
            due("ten again", x.prove(0, 10), 10);
            due("the tenth", x.row(9, 1), 59);
        });
        says(34, "ROWS of one: (1 if it LIES, else 0, OPINION, the PIT of THE READER) behind 1, 2, .. n YEARS, "
            + "tried", () -> {
                x.thing(THING, 90, 0, 5);
                x.thing(MOSAIC, 90, 9, 0);
                x.thing(VESSEL, 0, 0, 0);
                x.bring(4);
                x.prove(0, 4);
                rowDue(0, 1, 50, 5);
                rowDue(1, 0, 59, 0);
                rowDue(2, 0, 61, 1);
                rowDue(3, 0, 61, 2);
                x.prove(1, 3);
                rowDue(2, 1, 61, 1);
                x.take(0);
                x.prove(0, 1);
                rowDue(0, 0, 50, 5);
            });
        says(34, "tried", () -> {
            makeRich(x);
            x.prove(2, 3);
            x.alterRow(1, 1, 7);
            sameAs("but for ROWS nothing changes", Sentences::makeRich, x);
        });
        says(34, "BAD", () -> {
            for (int n : new int[] {LOW, -1, 0, 11, HIGH}) {
                refused("prove(0, " + n + ")", BAD, y -> y.prove(0, n));
            }
            for (int thing : new int[] {LOW, -1, 6, 8, HIGH}) {
                refused("prove(" + thing + ", 1)", BAD, y -> y.prove(thing, 1));
            }
        });
    }

    private void rows() {
        says(35, "Of ROW i: what = 0 whether it LIES, 1 OPINION, 2 the PIT of THE READER", () -> {
            x.thing(THING, 90, 0, 1);
            x.prove(0, 2);
            rowDue(0, 1, 50, 1);
            rowDue(1, 0, 59, 2);
        });
        says(35, "-9: there is none such, another what", () -> {
            due("without ROWS", x.row(0, 0), NO_ROW);
            for (int i : new int[] {LOW, -1, 3, 4, 9, 10, HIGH}) {
                refused("row(" + i + ", 0)", NO_ROW, y -> y.row(i, 0));
            }
            for (int what : new int[] {LOW, -1, 3, HIGH}) {
                refused("row(0, " + what + ")", NO_ROW, y -> y.row(0, what));
                refused("row(2, " + what + ")", NO_ROW, y -> y.row(2, what));
            }
        });
    }

    private void altered() {
        says(36, "It becomes v: what it was", () -> {
            x.thing(THING, 90, 0, 1);
            x.prove(0, 10);
            for (int what = 0; what < 3; what++) {
                int was = x.row(9, what);
                due("alterRow(9, " + what + ", LOW)", x.alterRow(9, what, LOW), was);
                due("is", x.row(9, what), LOW);
                due("alterRow(9, " + what + ", HIGH)", x.alterRow(9, what, HIGH), LOW);
                due("the row before stays", x.row(8, what), what == 0 ? 0 : what == 1 ? 59 : 3);
            }
            rowDue(9, HIGH, HIGH, HIGH);
            due("the first one", x.alterRow(0, 0, -9), 1);
            due("is -9", x.row(0, 0), -9);
        });
        says(36, "-9 likewise", () -> {
            due("without ROWS", x.alterRow(0, 0, 1), NO_ROW);
            for (int i : new int[] {LOW, -1, 3, 4, 9, 10, HIGH}) {
                refused("alterRow(" + i + ", 0, 5)", NO_ROW, y -> y.alterRow(i, 0, 5));
            }
            for (int what : new int[] {LOW, -1, 3, HIGH}) {
                refused("alterRow(0, " + what + ", 5)", NO_ROW, y -> y.alterRow(0, what, 5));
                refused("alterRow(2, " + what + ", 5)", NO_ROW, y -> y.alterRow(2, what, 5));
            }
        });
    }

    private void judged() {
        says(37, "THE READER OF ROWS takes them: 0 all is right (also if there are none)", () -> {
            x.thing(THING, 90, 0, 1);
            due("none", x.judge(0), 0);
            for (int n = 1; n <= 10; n++) {
                x.prove(0, n);
                due(n + " right ones", x.judge(0), 0);
            }
            unchanged("judge(2)", 2, y -> y.judge(2));
        });
        says(37, "else the first ROW that isn't, and 1 more", () -> {
            x.thing(THING, 90, 0, 1);
            x.prove(0, 10);
            for (int i = 9; i >= 0; i--) {
                for (int what = 0; what < 3; what++) {
                    int was = x.alterRow(i, what, -1);
                    due("ROW " + i + " altered in " + what, x.judge(0), i + 1);
                    x.alterRow(i, what, was);
                }
            }
            x.alterRow(9, 0, 5);
            x.alterRow(4, 1, 5);
            due("the first of two", x.judge(0), 5);
        });
        says(37, "THE READER OF ROWS takes them as those of one, from how it is now: right is one that is as it "
            + "must be", () -> {
                x.thing(THING, 90, 0, 1);
                x.thing(THING, 0, 0, 2);
                x.prove(0, 2);
                due("of the other", x.judge(1), 2);
                x.alterRow(1, 0, 1);
                due("made so that they are those of the other", x.judge(1), 0);
                due("and no more of this one", x.judge(0), 2);
                x.alterRow(1, 0, 0);
                x.value(0, 80);
                due("another WORTH now", x.judge(0), 2);
                x.value(0, 99);
                due("as much is spoken", x.judge(0), 0);
                x.bring(1);
                due("AT another PIT now", x.judge(0), 1);
            });
        says(37, "BAD", () -> {
            for (int thing : new int[] {LOW, -1, 6, 8, HIGH}) {
                refused("judge(" + thing + ")", BAD, y -> y.judge(thing));
            }
            due("without ROWS", x.judge(0), BAD);
        });
    }

    private void sheets() {
        says(39, "A SHEET becomes a row of n of a sort, all 0, or missing (sort -1; n counts nothing then): 1", () -> {
            for (int sheet = 0; sheet < 4; sheet++) {
                for (int sort = BYTES; sort <= LONGS; sort++) {
                    due("40 of sort " + sort, x.sheet(sheet, sort, 40), 1);
                    x.put(sheet, 0, 7);
                    x.put(sheet, 39, 7);
                    due("anew", x.sheet(sheet, sort, 40), 1);
                    due("the first one", x.item(sheet, sort, 0), 0);
                    due("the last one", x.item(sheet, sort, 39), 0);
                }
            }
        });
        says(39, "SHEETS 0 to 3 are rows of bytes (sort 0), shorts (1), ints (2) or longs (3), 40 at most", () -> {
            for (int sort = BYTES; sort <= LONGS; sort++) {
                due("of 40", x.sheet(sort, sort, 40), 1);
                due("of 41", x.sheet(sort, sort, 41), BAD);
                for (int as = BYTES; as <= LONGS; as++) {
                    due("taken for sort " + as, x.item(sort, as, 39), as == sort ? 0 : ANOTHER);
                }
                due("of 0", x.sheet(sort, sort, 0), 1);
                due("none in it", x.item(sort, sort, 0), OUTSIDE);
                due("of 1", x.sheet(sort, sort, 1), 1);
                due("one in it", x.item(sort, sort, 0), 0);
                due("not two", x.item(sort, sort, 1), OUTSIDE);
            }
        });
        says(39, "or missing (sort -1; n counts nothing then): 1", () -> {
            for (int n : new int[] {LOW, -1, 0, 40, 41, HIGH}) {
                x.sheet(3, INTS, 5);
                due("sheet(3, -1, " + n + ")", x.sheet(3, MISSING, n), 1);
                due("missing", x.item(3, INTS, 0), NOTHING);
            }
            due("missing already", x.sheet(3, MISSING, 0), 1);
            x.sheet(3, INTS, 5);
            due("all 0 behind that", x.item(3, INTS, 4), 0);
        });
        says(39, "all 0", () -> {
            for (int sheet = 0; sheet < 4; sheet++) {
                x.sheet(sheet, INTS, 10);
                for (int i = 0; i < 10; i++) {
                    x.put(sheet, i, 10 * sheet + i);
                }
            }
            x.sheet(1, BYTES, 40);
            for (int i = 0; i < 40; i++) {
                due("item " + i, x.item(1, BYTES, i), 0);
            }
            for (int i = 0; i < 10; i++) {
                due("the SHEET before stays", x.item(0, INTS, i), i);
                due("the SHEET behind stays", x.item(2, INTS, i), 20 + i);
                due("the last SHEET stays", x.item(3, INTS, i), 30 + i);
            }
        });
    }

    private void sheetsRefused() {
        says(39, "BAD: no such SHEET, sort, n above 40", () -> {
            for (int sheet : new int[] {LOW, -1, 4, HIGH}) {
                refused("sheet(" + sheet + ", 0, 1)", BAD, y -> y.sheet(sheet, 0, 1));
                refused("sheet(" + sheet + ", -1, 1)", BAD, y -> y.sheet(sheet, MISSING, 1));
                refused("sheet(" + sheet + ", 0, -1)", BAD, y -> y.sheet(sheet, 0, -1));
            }
            for (int sort : new int[] {LOW, -2, 4, HIGH}) {
                refused("sheet(0, " + sort + ", 1)", BAD, y -> y.sheet(0, sort, 1));
                refused("sheet(0, " + sort + ", -1)", BAD, y -> y.sheet(0, sort, -1));
            }
            for (int n : new int[] {41, 1000, HIGH}) {
                refused("sheet(0, 0, " + n + ")", BAD, y -> y.sheet(0, 0, n));
                refused("sheet(3, 3, " + n + ")", BAD, y -> y.sheet(3, 3, n));
            }
        });
        says(39, "-14", () -> {
            for (int sort = BYTES; sort <= LONGS; sort++) {
                int of = sort;
                refused("of sort " + sort, BELOW_NONE, y -> y.sheet(0, of, -1));
                refused("the lowest, of sort " + sort, BELOW_NONE, y -> y.sheet(3, of, LOW));
            }
        });
        says(39, "-14 a size below 0", () -> {
            due("-40", x.sheet(0, BYTES, -40), BELOW_NONE);
            due("missing as before", x.item(0, BYTES, 0), NOTHING);
            due("0 is a size", x.sheet(0, BYTES, 0), 1);
        });
    }

    private void puts() {
        says(40, "Item i becomes v, narrowed to its sort: 1", () -> {
            int[] vs = {LOW, -129, -128, -1, 0, 127, 128, 255, 256, -32769, 32767, 32768, 65535, HIGH};
            for (int sort = BYTES; sort <= LONGS; sort++) {
                x.sheet(0, sort, 40);
                for (int i = 0; i < vs.length; i++) {
                    int v = vs[i];
                    due("put(0, " + (39 - i) + ", " + v + ")", x.put(0, 39 - i, v), 1);
                    int want = sort == BYTES ? (byte) v : sort == SHORTS ? (short) v : v;
                    due("is", x.item(0, sort, 39 - i), want);
                }
                due("the last one yet", x.item(0, sort, 39), sort <= SHORTS ? 0 : LOW);
                due("those ahead stay", x.item(0, sort, 39 - vs.length), 0);
            }
        });
        says(40, "BAD: no such SHEET", () -> {
            for (int sheet : new int[] {LOW, -1, 4, HIGH}) {
                refused("put(" + sheet + ", 0, 1)", BAD, y -> y.put(sheet, 0, 1));
                refused("put(" + sheet + ", -1, 1)", BAD, y -> y.put(sheet, -1, 1));
            }
        });
        says(40, "-11", () -> {
            refused("put(3, 0, 1)", NOTHING, y -> y.put(3, 0, 1));
            refused("put(3, -1, 1)", NOTHING, y -> y.put(3, -1, 1));
            refused("put(3, 40, 1)", NOTHING, y -> y.put(3, 40, 1));
        });
        says(40, "-12 a place outside", () -> {
            for (int i : new int[] {LOW, -1, 5, 39, 40, HIGH}) {
                refused("put(0, " + i + ", 1)", OUTSIDE, y -> y.put(0, i, 1));
            }
            x.sheet(0, INTS, 0);
            due("of none", x.put(0, 0, 1), OUTSIDE);
            x.sheet(0, INTS, 40);
            due("of 40", x.put(0, 40, 1), OUTSIDE);
            due("the last of 40", x.put(0, 39, 1), 1);
        });
        says(40, "-12", () -> {
            x.sheet(1, BYTES, 0);
            due("put(1, 0, 1)", x.put(1, 0, 1), OUTSIDE);
        });
    }

    private void items() {
        says(41, "Item i, taken for a sort (0 to 3; of longs the lowest 32 bits)", () -> {
            x.sheet(2, LONGS, 3);
            x.put(2, 0, LOW);
            x.put(2, 1, -1);
            x.put(2, 2, HIGH);
            due("lowest", x.item(2, LONGS, 0), LOW);
            due("-1", x.item(2, LONGS, 1), -1);
            due("highest", x.item(2, LONGS, 2), HIGH);
        });
        says(41, "(An item may be as low as these, too.)", () -> {
            for (int sort = BYTES; sort <= LONGS; sort++) {
                x.sheet(sort, sort, 1);
                for (int v : new int[] {BAD, NOTHING, OUTSIDE, ANOTHER}) {
                    x.put(sort, 0, v);
                    due("item", x.item(sort, sort, 0), v);
                }
            }
        });
        says(41, "BAD: no such SHEET, sort", () -> {
            for (int sheet : new int[] {LOW, -1, 4, HIGH}) {
                refused("item(" + sheet + ", 0, 0)", BAD, y -> y.item(sheet, 0, 0));
            }
            for (int sort : new int[] {LOW, -1, 4, HIGH}) {
                refused("item(0, " + sort + ", 0)", BAD, y -> y.item(0, sort, 0));
                refused("item(3, " + sort + ", 0), missing", BAD, y -> y.item(3, sort, 0));
                refused("item(0, " + sort + ", 5), outside", BAD, y -> y.item(0, sort, 5));
            }
        });
        says(41, "-11", () -> {
            refused("item(3, 0, 0)", NOTHING, y -> y.item(3, 0, 0));
            refused("item(3, 3, -1)", NOTHING, y -> y.item(3, 3, -1));
        });
        says(41, "-13", () -> {
            refused("bytes taken for shorts", ANOTHER, y -> y.item(0, SHORTS, 0));
            refused("bytes taken for longs, and outside", ANOTHER, y -> y.item(0, LONGS, 5));
            refused("shorts taken for bytes", ANOTHER, y -> y.item(1, BYTES, 0));
            refused("longs taken for ints", ANOTHER, y -> y.item(2, INTS, -1));
        });
        says(41, "-12", () -> {
            for (int i : new int[] {LOW, -1, 5, 39, 40, HIGH}) {
                refused("item(0, 0, " + i + ")", OUTSIDE, y -> y.item(0, BYTES, i));
            }
            refused("item(2, 3, 2)", OUTSIDE, y -> y.item(2, LONGS, 2));
        });
        says(41, "and what the host refuses: -11 nothing where something is asked, -12 a place outside, -13 a thing "
            + "of another sort or kind", () -> {
                x.sheet(0, BYTES, 1);
                due("nothing", x.item(1, BYTES, 0), -11);
                due("outside", x.item(0, BYTES, 1), -12);
                due("another", x.item(0, SHORTS, 0), -13);
            });
    }

    private static void makeMinded(SampleLayers x) {
        makeRich(x);
        x.sheet(3, INTS, 5);
        x.put(0, 4, 99);
    }

    private void minds() {
        says(38, "n numbers (0 to 8) of a SHEET taken for bytes, from i on, become WORTH of THINGS from one on (held "
            + "to 0 to 99): n", () -> {
                eightWithBytes(50);
                due("all eight", x.minds(2, 3, 0, 8), 8);
                for (int i = 0; i < 8; i++) {
                    due("WORTH of " + i, x.of(i, 1), 13 + i);
                }
                due("three of them", x.minds(2, 0, 4, 3), 3);
                int[] want = {13, 14, 15, 16, 10, 11, 12, 20};
                for (int i = 0; i < 8; i++) {
                    due("WORTH of " + i + " then", x.of(i, 1), want[i]);
                }
            });
        says(38, "(held to 0 to 99)", () -> {
            eightWithBytes(50);
            int[] numbers = {-128, -1, 0, 1, 99, 100, 127, 200};
            int[] want = {0, 0, 0, 1, 99, 99, 99, 0};
            for (int i = 0; i < 8; i++) {
                x.put(2, i, numbers[i]);
            }
            due("eight", x.minds(2, 0, 0, 8), 8);
            for (int i = 0; i < 8; i++) {
                due("byte " + numbers[i], x.of(i, 1), want[i]);
            }
        });
        says(38, "n numbers (0 to 8)", () -> {
            eightWithBytes(50);
            due("none", x.minds(2, 0, 0, 0), 0);
            due("none, behind the last number", x.minds(2, 40, 7, 0), 0);
            for (int i = 0; i < 8; i++) {
                due("WORTH stays", x.of(i, 1), 50);
            }
            due("the last number", x.minds(2, 39, 7, 1), 1);
            due("WORTH of the last one", x.of(7, 1), 49);
            x.take(3);
            due("one FOUND", x.minds(2, 0, 3, 1), 1);
            due("its WORTH", x.of(3, 1), 10);
        });
    }

    /** Eight things, and in SHEET 2 forty bytes: 10, 11, 12 and so on. */
    private void eightWithBytes(int worth) {
        for (int i = 0; i < 8; i++) {
            x.thing(i % 6, worth, i, i % 6);
        }
        x.sheet(2, BYTES, 40);
        for (int i = 0; i < 40; i++) {
            x.put(2, i, 10 + i);
        }
    }

    private void mindsRefused() {
        says(38, "BAD: no such SHEET, one, n, or n goes beyond the last one", () -> {
            for (int sheet : new int[] {LOW, -1, 4, HIGH}) {
                refused("SHEET " + sheet, BAD, RowSentences::makeMinded, y -> y.minds(sheet, 0, 0, 1));
            }
            for (int thing : new int[] {LOW, -1, 6, 8, HIGH}) {
                refused("THING " + thing, BAD, RowSentences::makeMinded, y -> y.minds(0, 0, thing, 1));
                refused("THING " + thing + ", n 0", BAD, RowSentences::makeMinded, y -> y.minds(0, 0, thing, 0));
            }
            for (int n : new int[] {LOW, -1, 7, 8, 9, HIGH}) {
                refused("n " + n, BAD, RowSentences::makeMinded, y -> y.minds(0, 0, 0, n));
            }
            refused("two from the last one on", BAD, RowSentences::makeMinded, y -> y.minds(0, 0, 5, 2));
            refused("beyond, of a SHEET of shorts", BAD, y -> y.minds(1, 0, 5, 2));
            refused("beyond, of a missing SHEET", BAD, y -> y.minds(3, 0, 5, 2));
            refused("beyond, and outside", BAD, y -> y.minds(0, -1, 5, 2));
        });
        says(38, "-11", () -> {
            refused("missing", NOTHING, y -> y.minds(3, 0, 0, 1));
            refused("missing, and outside", NOTHING, y -> y.minds(3, -1, 0, 1));
            refused("missing, n 0", NOTHING, y -> y.minds(3, 0, 0, 0));
        });
        says(38, "-13", () -> {
            refused("shorts", ANOTHER, y -> y.minds(1, 0, 0, 1));
            refused("longs", ANOTHER, y -> y.minds(2, 0, 0, 0));
            refused("ints", ANOTHER, RowSentences::makeMinded, y -> y.minds(3, 0, 0, 1));
            refused("shorts, and outside", ANOTHER, y -> y.minds(1, 9, 0, 1));
        });
        says(38, "-12: i is not 0 to how many items there are (also for n 0), or there are not so many", () -> {
            for (int i : new int[] {LOW, -1, 6, 40, HIGH}) {
                refused("from " + i + ", n 0", OUTSIDE, y -> y.minds(0, i, 0, 0));
                refused("from " + i + ", n 1", OUTSIDE, y -> y.minds(0, i, 0, 1));
            }
            for (int n = 1; n <= 6; n++) {
                int many = n;
                refused(n + " from " + (6 - n) + " on", OUTSIDE, y -> y.minds(0, 6 - many, 0, many));
            }
            unchanged("none from 5 on", 0, y -> y.minds(0, 5, 0, 0));
            makeRich(x);
            due("five from 0 on", x.minds(0, 0, 0, 5), 5);
            due("one from 4 on", x.minds(0, 4, 0, 1), 1);
        });
    }
}
