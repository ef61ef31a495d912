/** Promises 2 and 3: the bytes of THE TAPE, and the street told in a text. */
final class TextSentences extends Sentences {
    private static final String[] KINDS = {"thing", "vessel", "rubbish", "mosaic", "shoe", "sand"};
    private static final String WHOLE = "thing in 3 worth 45 truth 6;";

    TextSentences(Document document, Check check) {
        super(document, check);
    }

    @Override
    void all() {
        bytes();
        tapeRefuses();
        tapeBecomesAll();
        things();
        settings();
        names();
        numbers();
        blanks();
        faultPlaces();
        endsTooEarly();
        numbersOutOfRange();
        faultsChangeNothing();
    }

    private int tell(String text) {
        return Tapes.tell(x, text);
    }

    private void told(String text, int things) {
        due("street() of '" + text + "'", tell(text), things);
    }

    private void fault(String text, int place) {
        due("street() of '" + text + "'", tell(text), -100 - place);
    }

    private void bytes() {
        says(2, "n bytes (1 to 8) come to THE TAPE", () -> {
            for (int n = 1; n <= 8; n++) {
                int before = x.many(5);
                due("feed(.., " + n + ")", x.feed(0, n), before + n);
            }
        });
        says(2, "the lowest of eight first", () -> {
            x.feed(Tapes.packed("slip 12;"), 8);
            due("all eight", x.street(), 0);
            due("slip", x.lawOf(SLIP), 12);
            x.feed(Tapes.packed("dig 7;??"), 6);
            due("six alone", x.street(), 0);
            due("dig", x.lawOf(DIG), 7);
            x.feed(Tapes.packed("xshine 1"), 1);
            due("the first is the lowest", x.street(), -100);
            x.feed(-1L << 8 | ';', 1);
            due("one byte of a number below 0", x.street(), -100);
            x.feed(-1L << 8 | ' ', 1);
            due("a blank of a number below 0", x.street(), 0);
        });
        says(2, "how many it has", () -> {
            due("three", x.feed(0, 3), 3);
            due("eleven", x.feed(0, 8), 11);
            due("many(5)", x.many(5), 11);
        });
        says(2, "THE TAPE takes bytes, 200 at most; street() uses it up", () -> {
            fill(x, 200);
            due("200 blanks", x.street(), 0);
            due("used up", x.many(5), 0);
            due("the first one again", x.feed('!', 1), 1);
            due("a fault", x.street(), -100);
            due("used up by a fault too", x.many(5), 0);
            due("nothing is left of it", x.street(), 0);
        });
    }

    private static void fill(SampleLayers x, int bytes) {
        Tapes.feed(x, " ".repeat(bytes));
    }

    private void tapeRefuses() {
        says(2, "BAD", () -> {
            for (int n : new int[] {LOW, -8, -1, 0, 9, 200, HIGH}) {
                refused("feed(.., " + n + ")", BAD, y -> y.feed(0x2020202020202020L, n));
            }
        });
        says(2, "FULL: more than 200", () -> {
            for (int free = 0; free <= 8; free++) {
                SampleLayers one = new SampleLayers();
                int before = 200 - free;
                fill(one, before);
                if (free < 8) {
                    due((free + 1) + " more than " + before, one.feed(0, free + 1), FULL);
                }
                due("as before", one.many(5), before);
                if (free > 0) {
                    due(free + " more than " + before, one.feed(0x2020202020202020L, free), 200);
                }
                due("201", one.feed(0, 1), FULL);
                due("all blanks", one.street(), 0);
            }
            refused("eight behind 193", FULL, y -> fill(y, 193), y -> y.feed(0, 8));
            refused("one behind 200", FULL, y -> fill(y, 200), y -> y.feed(0, 1));
        });
        says(2, "of several the first named", () -> {
            refused("n 9 behind 200", BAD, y -> fill(y, 200), y -> y.feed(0, 9));
            refused("n 0 behind 200", BAD, y -> fill(y, 200), y -> y.feed(0, 0));
        });
    }

    private void tapeBecomesAll() {
        says(3, "THE TAPE becomes all", () -> {
            makeRich(x);
            x.street();
            told("mosaic in 2 worth 5 truth 4; reader 4; opinion 12; dig 1; shine 3; filth 4; slip 5;", 1);
            due("KIND", x.of(0, 0), MOSAIC);
            due("WORTH", x.of(0, 1), 5);
            due("TRUTH", x.of(0, 2), 4);
            due("PIT", x.of(0, 3), 2);
            due("READER", x.state(2), 4);
            due("OPINION", x.state(1), 12);
            due("LAWS", x.lawOf(0) * 1000 + x.lawOf(1) * 100 + x.lawOf(2) * 10 + x.lawOf(3), 1345);
        });
        says(3, "how many THINGS", () -> {
            told("", 0);
            for (int n = 0; n <= 8; n++) {
                told("sand in 0;".repeat(n), n);
                due("many(0)", x.many(0), n);
            }
        });
        says(3, "There are no ROWS then", () -> {
            x.thing(THING, 1, 1, 1);
            x.prove(0, 10);
            told("thing in 1;", 1);
            due("many(4)", x.many(4), 0);
            due("row(0, 0)", x.row(0, 0), -9);
            due("judge(0)", x.judge(0), 0);
        });
        says(3, "It is all by it alone (what it doesn't tell is as at first)", () -> {
            makeRich(x);
            x.street();
            x.seed(1);
            told("", 0);
            due("YEAR", x.state(0), 0);
            due("OPINION", x.state(1), 50);
            due("READER", x.state(2), 0);
            due("those that lie", x.state(3), 0);
            due("LAWS", x.lawOf(0) * 10000 + x.lawOf(1) * 1000 + x.lawOf(2) * 100 + x.lawOf(3), 32220);
            due("no THINGS", x.of(0, 0), BAD);
        });
        says(3, "z stays", () -> {
            for (int z : new int[] {LOW, -1, 0, HIGH}) {
                x.seed(z);
                told("thing in 1;", 1);
                due("seed(5)", x.seed(5), z);
            }
        });
        says(3, "TEXT:", () -> {
            makeRich(x);
            told("", 0);
            due("SHEETS stay", x.item(0, BYTES, 3), 120);
            due("SHELVES stay: a row", x.taken(1, 10 + SHORTS), 3);
            due("SHELVES stay: a thing, if there is such a one", x.taken(0, 0), NOTHING);
            due("THE TRACE stays", x.many(6), 8);
            due("what is kept stays", x.again(), 6);
        });
    }

    private void things() {
        says(3, "{ KIND in N [ worth N ] [ truth N ] ;", () -> {
            told("thing in 1;", 1);
            told("thing in 1 worth 2;", 1);
            due("WORTH", x.of(0, 1), 2);
            due("TRUTH", x.of(0, 2), 0);
            told("thing in 1 truth 3;", 1);
            due("WORTH", x.of(0, 1), 10);
            due("TRUTH", x.of(0, 2), 3);
            told("thing in 1 worth 4 truth 5;", 1);
            due("WORTH", x.of(0, 1), 4);
            due("TRUTH", x.of(0, 2), 5);
            fault("thing in 1 truth 5 worth 4;", 19);
            fault("thing in 1 worth 4 worth 4;", 19);
            fault("thing in 1 truth 4 truth 4;", 19);
            fault("thing in 1 worth 4 truth 4 truth 4;", 27);
            fault("thing worth 4 in 1;", 6);
            fault("thing 1;", 6);
        });
        says(3, "KIND (thing | vessel | rubbish | mosaic | shoe | sand): one more in a PIT", () -> {
            for (int kind = 0; kind < 6; kind++) {
                told(KINDS[kind] + " in " + kind + ";", 1);
                due("KIND", x.of(0, 0), kind);
                due("PIT", x.of(0, 3), kind);
            }
            told("sand in 4; shoe in 4; thing in 4;", 3);
            due("each above all there", x.above(0) * 10 + x.above(1), 64);
        });
        says(3, "WORTH (10 without), TRUTH (0 without)", () -> {
            told("shoe in 0;", 1);
            due("WORTH", x.of(0, 1), 10);
            due("TRUTH", x.of(0, 2), 0);
            told("shoe in 0 worth 0 truth 9; shoe in 0 worth 99; sand in 1;", 3);
            due("WORTH 0", x.of(0, 1), 0);
            due("TRUTH 9", x.of(0, 2), 9);
            due("WORTH 99", x.of(1, 1), 99);
            due("TRUTH of the one behind", x.of(1, 2), 0);
            due("WORTH of the last one", x.of(2, 1), 10);
        });
        says(3, "the NAME of a ninth one", () -> {
            String eight = "thing in 1;".repeat(8);
            told(eight, 8);
            for (String kind : KINDS) {
                fault(eight + kind + " in 1;", 88);
            }
            fault(eight + " thing", 89);
            fault(eight + "thing in 9;", 88);
            fault("dig 9;" + eight + "dig 1; sand in 5;", 101);
            told(eight + "dig 1; reader 1;", 8);
        });
    }

    private void settings() {
        says(3, "| reader N ;", () -> told("reader 3;", 0));
        says(3, "reader: AT which PIT", () -> {
            told("reader 5;", 0);
            due("AT 5", x.state(2), 5);
            told("reader 0;", 0);
            due("AT 0", x.state(2), 0);
            fault("reader 6;", 7);
        });
        says(3, "| opinion N ;", () -> {
            told("opinion 99;", 0);
            due("99", x.state(1), 99);
            told("opinion 0;", 0);
            due("0", x.state(1), 0);
            fault("opinion 100;", 8);
        });
        says(3, "| dig N ;", () -> lawTold("dig", DIG, 9));
        says(3, "| shine N ;", () -> lawTold("shine", SHINE, 9));
        says(3, "| filth N ;", () -> lawTold("filth", FILTH, 9));
        says(3, "| slip N ; }", () -> {
            lawTold("slip", SLIP, 99);
            told("slip 1;dig 2;slip 3;", 0);
            due("the later one", x.lawOf(SLIP), 3);
        });
        says(3, "The others: OPINION; the LAW", () -> {
            told("opinion 1;dig 2;shine 3;filth 4;slip 5;", 0);
            due("OPINION", x.state(1), 1);
            for (int law = 0; law < 4; law++) {
                due("LAW " + law, x.lawOf(law), law + 2);
            }
        });
    }

    private void lawTold(String name, int law, int most) {
        told(name + " " + most + ";", 0);
        due("most", x.lawOf(law), most);
        told(name + " 0;", 0);
        due("least", x.lawOf(law), 0);
        fault(name + " " + (most + 1) + ";", name.length() + 1);
        fault(name + ";", name.length());
        fault(name + " 1 2;", name.length() + 3);
        fault(name + " in 1;", name.length() + 1);
    }

    private void names() {
        says(3, "NAMES are rows of letters a to z", () -> {
            for (char c : "`{@[AZ_'\u00e9\u007f".toCharArray()) {
                fault(c + "", 0);
                fault("dig 1;" + c, 6);
                fault("dig" + c + " 1;", 3);
            }
            fault("Dig 1;", 0);
            fault("dIg 1;", 0);
            fault("a", 0);
            fault("z", 0);
        });
        says(3, "as long as they go", () -> {
            fault("digz 1;", 0);
            fault("adig 1;", 0);
            fault("di g 1;", 0);
            fault("thingin 1;", 0);
            fault("thing inn 1;", 6);
            fault("thing in 1 worths 1;", 11);
            fault("thing in 1 truthworth 1;", 11);
            fault("di", 0);
        });
        says(3, "of the first NAME, NUMBER or other byte that can't stand there", () -> {
            for (String name : "in worth truth things seed year a".split(" ")) {
                fault(name + " 1;", 0);
                fault("dig 1; " + name + " 1;", 7);
            }
            fault("thing on 1;", 6);
            fault("thing in one;", 9);
            fault("thing in 1 in 2;", 11);
            fault("thing in 1 dig 2;", 11);
        });
    }

    private void numbers() {
        says(3, "NUMBERS rows of digits (1 to 3)", () -> {
            told("slip 9;", 0);
            told("slip 99;", 0);
            told("slip 099;", 0);
            due("099", x.lawOf(SLIP), 99);
            told("dig 007;", 0);
            due("007", x.lawOf(DIG), 7);
            told("reader 000; opinion 010;", 0);
            due("010", x.state(1), 10);
            fault("slip 0099;", 5);
            fault("slip 0000;", 5);
            fault("slip ;", 5);
        });
        says(3, "both as long as they go", () -> {
            fault("slip 00000000000000000000000001;", 5);
            fault("slip 4294967297;", 5);
            fault("slip 1 2;", 7);
            fault("slip 1a;", 6);
            told("slip 12;", 0);
            due("12", x.lawOf(SLIP), 12);
            told("thing in1worth2truth3;dig4;", 1);
            due("PIT", x.of(0, 3), 1);
            due("WORTH", x.of(0, 1), 2);
            due("TRUTH", x.of(0, 2), 3);
        });
        says(3, "rows of digits (1 to 3)", () -> {
            told("slip 90; dig 0; shine 9;", 0);
            for (char c : "/:-+.,".toCharArray()) {
                fault("slip " + c + "1;", 5);
                fault("slip 1" + c + ";", 6);
            }
        });
    }

    private void blanks() {
        says(3, "blanks (32) part them, and stand elsewhere as one likes", () -> {
            told("  thing  in  1  worth  2  truth  3  ;  dig  4  ;  ", 1);
            due("WORTH", x.of(0, 1), 2);
            due("DIG", x.lawOf(DIG), 4);
            told("dig 1;dig 2;", 0);
            told("dig 1 ; dig 2 ;", 0);
            fault("di g 1;", 0);
            fault("slip 1 0;", 7);
        });
        says(3, "blanks (32)", () -> {
            for (char c : "\t\n\r\u000b\f\u0000\u0001\u001f!\u00a0\u00ff\u0080".toCharArray()) {
                fault("dig" + c + "1;", 3);
                fault(c + "dig 1;", 0);
                fault("dig 1;" + c, 6);
            }
        });
        says(3, "TEXT: {", () -> {
            told("", 0);
            told(" ", 0);
            told(" ".repeat(200), 0);
            told(("thing in 0 worth 99 truth 9;".repeat(6) + "thing in 0 worth 000 truth 009 ;"), 7);
            due("the last one of 200 bytes", x.of(6, 2), 9);
            fault(";", 0);
            fault("dig 1;;", 6);
        });
    }

    private void faultPlaces() {
        says(3, "-100 less its FAULT", () -> {
            fault("?", 0);
            fault(" ".repeat(199) + "?", 199);
            fault("thing in 1" + " ".repeat(190), 200);
        });
        says(3, "FAULT: the place (from 0) of the first byte", () -> {
            fault("dig 99; slip 999; foo", 4);
            fault("dig 1; slip 999; foo", 12);
            fault("dig 1; slip 99; foo ?", 16);
            fault("thing in 1 worth 100 truth 10;", 17);
            fault("thing on 9 worth 100;", 6);
            fault("dig ? 99", 4);
        });
        says(3, "NUMBER or other byte that can't stand there or is not as told", () -> {
            fault("1;", 0);
            fault("dig 1; 2;", 7);
            fault("thing 1 in;", 6);
            fault("thing ; in 1;", 6);
            fault("thing in ;", 9);
            fault("thing in 1 2;", 11);
            fault("thing in 1 worth ;", 17);
            fault("thing in 1 truth worth 1;", 17);
            fault("thing in 1, worth 1;", 10);
            fault("dig 1,", 5);
        });
    }

    /** Where each beginning of the whole text has its fault. */
    private void endsTooEarly() {
        says(3, "or the end (how many bytes there are), if more must come", () -> {
            int[] places = {-1, 0, 0, 0, 0, 5, 6, 6, 8, 9, 10, 11, 11, 11, 11, 11, 16, 17, 18, 19, 20,
                20, 20, 20, 20, 25, 26, 27};
            told(WHOLE, 1);
            for (int length = 1; length < WHOLE.length(); length++) {
                fault(WHOLE.substring(0, length), places[length]);
            }
            fault("thing in 1 truth", 16);
            fault("dig", 3);
            fault("dig 1", 5);
            fault("dig 1; slip    ", 15);
            fault("dig" + " ".repeat(197), 200);
        });
    }

    private void numbersOutOfRange() {
        says(3, "a NUMBER out of range", () -> {
            fault("thing in 6;", 9);
            fault("thing in 999;", 9);
            fault("thing in 1 worth 100;", 17);
            fault("thing in 1 worth 999;", 17);
            fault("thing in 1 truth 10;", 17);
            fault("thing in 1 worth 1 truth 10;", 25);
            fault("reader 6;", 7);
            fault("opinion 100;", 8);
            fault("dig 10;", 4);
            fault("shine 10;", 6);
            fault("filth 10;", 6);
            fault("slip 100;", 5);
            told("thing in 5 worth 99 truth 9;reader 5;opinion 99;dig 9;shine 9;filth 9;slip 99;", 1);
        });
        says(3, "of more digits", () -> {
            for (String start : new String[] {"thing in ", "thing in 1 worth ", "thing in 1 truth ",
                "reader ", "opinion ", "dig ", "shine ", "filth ", "slip "}) {
                fault(start + "0001;", start.length());
                told(start + "001;", start.startsWith("thing") ? 1 : 0);
            }
        });
    }

    private void faultsChangeNothing() {
        says(3, "(but that THE TAPE is used up by street())", () -> {
            for (String text : new String[] {"?", "thing in 1; dig 5; reader 2; opinion 3; slip 0; thing in",
                "sand in 1;".repeat(8) + "sand in 2;", "thing in 1;slip 100;"}) {
                SampleLayers one = new SampleLayers();
                makeRich(one);
                one.street();
                makeAgain(one);
                Tapes.feed(one, text);
                holds("a fault: " + text, one.street() <= -100);
                sameAs("a fault changes nothing: " + text, y -> {
                    makeRich(y);
                    y.street();
                    makeAgain(y);
                }, one);
            }
        });
    }

    /** With THE TAPE used up: things and rows once more. */
    private static void makeAgain(SampleLayers x) {
        x.again();
        x.prove(2, 4);
        x.bring(4);
        x.years(1);
    }
}
