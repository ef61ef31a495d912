/** Promises 25 to 33: what had best be, what lies above, what fits, and the odds. */
final class ChoiceSentences extends Sentences {
    ChoiceSentences(Document document, Check check) {
        super(document, check);
    }

    @Override
    void all() {
        pits();
        kinds();
        worths();
        begins();
        aways();
        aboves();
        fits();
        fitsRefused();
        odds();
        hopes();
    }

    private void pits() {
        says(25, "PIT FOR a THING that LIES, n: the PIT in which (taken out and laid above all there now) it "
            + "makes THOUGHT by n greatest", () -> {
                x.thing(THING, 90, 0, 4);
                x.bring(2);
                due("by 1", x.pitFor(0, 1), 2);
                x.bring(5);
                due("by 1, AT 5", x.pitFor(0, 1), 5);
                x.thing(RUBBISH, 0, 0, 5);
                due("not spoilt by what is beneath", x.pitFor(0, 1), 5);
                x.mind(0, RUBBISH, 0);
                x.value(0, 0);
                due("where it is not found", x.pitFor(0, 1), 0);
                x.bring(0);
                due("where it is not found", x.pitFor(0, 1), 1);
            });
        says(25, "(taken out and laid above all there now)", () -> {
            x.thing(THING, 90, 0, 2);
            x.thing(MOSAIC, 90, 9, 2);
            x.bring(2);
            due("above what hides too deep", x.pitFor(0, 1), 2);
            due("taken off another", x.pitFor(1, 1), 0);
            x.bring(0);
            due("taken off another", x.pitFor(1, 3), 0);
            for (int i = 0; i < 40; i++) {
                x.lay(1, 2);
            }
            x.bring(2);
            due("above what was laid often", x.pitFor(0, 1), 2);
        });
        says(25, "of several the least", () -> {
            x.thing(THING, 90, 0, 4);
            due("all reached", x.pitFor(0, 6), 0);
            x.bring(4);
            due("4 or 5", x.pitFor(0, 2), 4);
            due("0, 4 or 5", x.pitFor(0, 3), 0);
            x.set(DIG, 0);
            due("none", x.pitFor(0, 20), 0);
        });
        says(25, "PIT FOR one, n (1 to 20)", () -> {
            x.thing(THING, 90, 0, 4);
            due("1", x.pitFor(0, 1), 0);
            due("20", x.pitFor(0, 20), 0);
            unchanged("pitFor(0, 20)", 0, y -> y.pitFor(0, 20));
            unchanged("pitFor(5, 1)", 3, y -> y.pitFor(5, 1));
        });
        says(25, "BAD", () -> {
            for (int n : new int[] {LOW, -1, 0, 21, HIGH}) {
                refused("pitFor(0, " + n + ")", BAD, y -> y.pitFor(0, n));
                refused("pitFor(4, " + n + "), FOUND", BAD, y -> y.pitFor(4, n));
            }
            for (int thing : new int[] {LOW, -1, 6, 8, HIGH}) {
                refused("pitFor(" + thing + ", 1)", BAD, y -> y.pitFor(thing, 1));
            }
        });
        says(25, "NONE: it is FOUND", () -> refused("pitFor(4, 1)", NONE, y -> y.pitFor(4, 1)));
    }

    private void kinds() {
        says(26, "KIND FOR one that LIES, n: the KIND as one of which it does", () -> {
            x.thing(SAND, 50, 1, 0);
            due("a mosaic speaks 14", x.kindFor(0, 1), MOSAIC);
            x.set(DIG, 2);
            due("a vessel 7", x.kindFor(0, 1), VESSEL);
            x.set(DIG, 1);
            due("a thing 5", x.kindFor(0, 1), THING);
            x.set(DIG, 0);
            due("rubbish 3", x.kindFor(0, 1), RUBBISH);
            x.set(DIG, 9);
            x.mind(0, SAND, 9);
            due("a shoe 12", x.kindFor(0, 1), SHOE);
        });
        says(26, "of several the least", () -> {
            x.thing(SHOE, 0, 0, 0);
            x.set(SHINE, 0);
            x.set(FILTH, 0);
            due("all speak 0", x.kindFor(0, 1), THING);
            x.set(FILTH, 1);
            x.mind(0, SHOE, 3);
            due("shoe alone", x.kindFor(0, 1), SHOE);
            x.set(SHINE, 1);
            due("mosaic hides too deep", x.kindFor(0, 1), SHOE);
            x.set(SHINE, 2);
            due("vessel and shoe speak 2", x.kindFor(0, 1), VESSEL);
            x.bring(1);
            due("none is reached", x.kindFor(0, 5), THING);
        });
        says(26, "KIND FOR one, n (1 to 20)", () -> {
            x.thing(THING, 50, 1, 5);
            due("not reached by 5", x.kindFor(0, 5), THING);
            due("reached by 6", x.kindFor(0, 6), MOSAIC);
            due("20", x.kindFor(0, 20), MOSAIC);
            unchanged("kindFor(5, 20)", MOSAIC, y -> {
                makeRich(y);
                y.mind(5, THING, 0);
            }, y -> y.kindFor(5, 20));
        });
        says(26, "BAD", () -> {
            for (int n : new int[] {LOW, -1, 0, 21, HIGH}) {
                refused("kindFor(0, " + n + ")", BAD, y -> y.kindFor(0, n));
                refused("kindFor(4, " + n + "), FOUND", BAD, y -> y.kindFor(4, n));
            }
            for (int thing : new int[] {LOW, -1, 6, 8, HIGH}) {
                refused("kindFor(" + thing + ", 1)", BAD, y -> y.kindFor(thing, 1));
            }
        });
        says(26, "NONE: it is FOUND", () -> refused("kindFor(4, 1)", NONE, y -> y.kindFor(4, 1)));
    }

    private void worths() {
        says(27, "WORTH FOR one that LIES, n, v: the least WORTH (0 to 99) with which THOUGHT by n is v or "
            + "more", () -> {
                x.thing(THING, 50, 1, 2);
                for (int more = 0; more <= 9; more++) {
                    due(more + " more", x.worthFor(0, 3, 50 + more), 10 * more);
                }
                due("10 more", x.worthFor(0, 3, 60), NONE);
                due("0 at least", x.worthFor(0, 3, 0), 0);
                due("by 2", x.worthFor(0, 2, 50), 0);
                due("by 2, 1 more", x.worthFor(0, 2, 51), NONE);
                x.mind(0, MOSAIC, 0);
                due("4 without worth", x.worthFor(0, 3, 54), 0);
                due("5", x.worthFor(0, 3, 55), 10);
                due("22", x.worthFor(0, 3, 72), 90);
                due("23", x.worthFor(0, 3, 73), NONE);
                x.mind(0, RUBBISH, 0);
                due("2 less without worth", x.worthFor(0, 3, 49), 10);
            });
        says(27, "WORTH FOR one, n (1 to 20), v (0 to 99)", () -> {
            x.thing(THING, 50, 1, 0);
            due("n 1", x.worthFor(0, 1, 59), 90);
            due("n 20", x.worthFor(0, 20, 59), 90);
            due("v 0", x.worthFor(0, 1, 0), 0);
            x.think(95);
            due("v 99", x.worthFor(0, 1, 99), 40);
            unchanged("worthFor(5, 3, 43)", NONE, y -> y.worthFor(5, 3, 43));
            unchanged("worthFor(5, 20, 62)", 90, y -> y.worthFor(5, 20, 62));
        });
        says(27, "BAD", () -> {
            for (int n : new int[] {LOW, -1, 0, 21, HIGH}) {
                refused("worthFor(0, " + n + ", 0)", BAD, y -> y.worthFor(0, n, 0));
                refused("worthFor(4, " + n + ", 0), FOUND", BAD, y -> y.worthFor(4, n, 0));
            }
            for (int v : new int[] {LOW, -1, 100, HIGH}) {
                refused("worthFor(0, 1, " + v + ")", BAD, y -> y.worthFor(0, 1, v));
                refused("worthFor(4, 1, " + v + "), FOUND", BAD, y -> y.worthFor(4, 1, v));
            }
            for (int thing : new int[] {LOW, -1, 6, 8, HIGH}) {
                refused("worthFor(" + thing + ", 1, 0)", BAD, y -> y.worthFor(thing, 1, 0));
            }
        });
        says(27, "NONE: with none (also if it is FOUND)", () -> {
            refused("99", NONE, y -> y.worthFor(0, 20, 99));
            refused("FOUND", NONE, y -> y.worthFor(4, 1, 0));
        });
    }

    private void begins() {
        says(28, "BEGIN FOR n: the PIT AT which THE READER had best be now, so that it is greatest", () -> {
            x.thing(RUBBISH, 0, 0, 0);
            x.thing(THING, 99, 0, 4);
            x.thing(THING, 99, 0, 5);
            due("by 1", x.beginFor(1), 4);
            due("by 2", x.beginFor(2), 4);
            due("by 3", x.beginFor(3), 3);
            due("by 5", x.beginFor(5), 1);
            x.lay(1, 0);
            due("behind 5 comes 0", x.beginFor(2), 5);
        });
        says(28, "of several the least", () -> {
            due("none", x.beginFor(20), 0);
            x.thing(THING, 99, 0, 5);
            x.thing(THING, 99, 0, 2);
            due("2 or 5", x.beginFor(1), 2);
            due("by 3", x.beginFor(3), 0);
            due("by 20", x.beginFor(20), 0);
            x.bring(4);
            due("wherever it is", x.beginFor(1), 2);
        });
        says(28, "BEGIN FOR n (1 to 20)", () -> {
            unchanged("beginFor(1)", 1, y -> y.beginFor(1));
            unchanged("beginFor(20)", 2, y -> y.beginFor(20));
        });
        says(28, "BAD", () -> {
            for (int n : new int[] {LOW, -1, 0, 21, HIGH}) {
                refused("beginFor(" + n + ")", BAD, y -> y.beginFor(n));
            }
        });
    }

    private void aways() {
        says(29, "AWAY FOR n, v: the set of fewest that LIE such that, if these are taken away now, THOUGHT by n "
            + "is v or more", () -> {
                x.thing(THING, 99, 0, 0);
                x.thing(MOSAIC, 99, 9, 0);
                x.thing(MOSAIC, 99, 9, 0);
                due("none", x.awayFor(1, 50), 0);
                due("two", x.awayFor(1, 59), 6);
                due("by no set", x.awayFor(20, 60), NONE);
                x.take(2);
                due("the one that lies yet", x.awayFor(1, 59), 2);
                x.thing(MOSAIC, 0, 9, 1);
                x.thing(THING, 99, 0, 1);
                x.thing(VESSEL, 0, 0, 2);
                due("one of the higher numbers is not needed", x.awayFor(3, 61), 0);
                due("two THINGS", x.awayFor(3, 70), 2);
            });
        says(29, "of several the least", () -> {
            x.thing(THING, 99, 0, 0);
            x.thing(THING, 99, 0, 1);
            x.thing(MOSAIC, 0, 9, 1);
            x.thing(MOSAIC, 0, 9, 0);
            due("either mosaic", x.awayFor(2, 59), 4);
            due("both", x.awayFor(2, 60), 12);
            x.lay(0, 2);
            due("the higher one is of no use", x.awayFor(2, 51), 4);
            x.lay(1, 0);
            x.lay(3, 0);
            due("the higher one alone", x.awayFor(2, 51), 8);
        });
        says(29, "the set of fewest", () -> {
            for (int i = 0; i < 8; i++) {
                x.thing(RUBBISH, 0, 0, 0);
            }
            for (int size = 0; size <= 8; size++) {
                due(size + " of eight", x.awayFor(1, 34 + 2 * size), (1 << size) - 1);
            }
            due("more than all", x.awayFor(1, 51), NONE);
        });
        says(29, "AWAY FOR n (1 to 20), v (0 to 99)", () -> {
            due("0", x.awayFor(1, 0), 0);
            x.think(99);
            due("99", x.awayFor(20, 99), 0);
            unchanged("awayFor(20, 67)", 2, y -> y.awayFor(20, 67));
        });
        says(29, "BAD", () -> {
            for (int n : new int[] {LOW, -1, 0, 21, HIGH}) {
                refused("awayFor(" + n + ", 0)", BAD, y -> y.awayFor(n, 0));
                refused("awayFor(" + n + ", 99), by no set", BAD, y -> y.awayFor(n, 99));
            }
            for (int v : new int[] {LOW, -1, 100, HIGH}) {
                refused("awayFor(1, " + v + ")", BAD, y -> y.awayFor(1, v));
            }
        });
        says(29, "NONE: by no set", () -> refused("awayFor(20, 99)", NONE, y -> y.awayFor(20, 99)));
    }

    private void aboves() {
        says(30, "ABOVE one that LIES: all that LIE above it in its PIT", () -> {
            for (int i = 0; i < 8; i++) {
                x.thing(THING, 0, 0, 2);
            }
            for (int i = 0; i < 8; i++) {
                due("above(" + i + ")", x.above(i), 255 - ((1 << i + 1) - 1));
            }
            x.lay(0, 2);
            due("the lowest one now", x.above(1), 253);
            x.lay(3, 1);
            due("without one elsewhere", x.above(1), 245);
            x.take(7);
            due("without one FOUND", x.above(1), 117);
            due("above one elsewhere", x.above(3), 0);
        });
        says(30, "ABOVE one, as a set (0, if it is FOUND)", () -> {
            x.thing(THING, 0, 0, 0);
            x.thing(THING, 0, 0, 0);
            due("lies", x.above(0), 2);
            x.take(0);
            due("FOUND", x.above(0), 0);
            x.take(1);
            due("both FOUND", x.above(0) + x.above(1), 0);
        });
        says(30, "BAD", () -> {
            for (int thing : new int[] {LOW, -1, 6, 8, HIGH}) {
                refused("above(" + thing + ")", BAD, y -> y.above(thing));
            }
        });
    }

    private void fitsDue(int thing, int many, int least) {
        due("how many", x.fits(0, thing, 0), many);
        due("the least", x.fits(0, thing, 1), least);
    }

    private void fits() {
        says(31, "FITS of one by a SHEET: those WORTHS (0 to 99) of it now with which OPINION is, behind 1, 2, .. "
            + "YEARS, what the numbers of the SHEET tell, one by one (-1: any)", () -> {
                x.thing(THING, 55, 0, 1);
                x.sheet(0, INTS, 2);
                x.put(0, 0, 50);
                x.put(0, 1, 57);
                fitsDue(0, 10, 70);
                x.put(0, 0, 57);
                fitsDue(0, 0, NONE);
                x.put(0, 0, -1);
                fitsDue(0, 10, 70);
                x.put(0, 1, -1);
                fitsDue(0, 100, 0);
                x.put(0, 1, 59);
                fitsDue(0, 10, 90);
                x.put(0, 1, 50);
                fitsDue(0, 10, 0);
                x.put(0, 1, 60);
                fitsDue(0, 0, NONE);
            });
        says(31, "(-1: any)", () -> {
            x.thing(THING, 55, 0, 0);
            for (int sort = BYTES; sort <= LONGS; sort++) {
                x.sheet(0, sort, 1);
                x.put(0, 0, -1);
                fitsDue(0, 100, 0);
                x.put(0, 0, -2);
                fitsDue(0, 0, NONE);
                x.put(0, 0, 56);
                fitsDue(0, 10, 60);
            }
            x.sheet(0, INTS, 1);
            x.put(0, 0, 256 + 56);
            fitsDue(0, 0, NONE);
            x.sheet(0, BYTES, 1);
            x.put(0, 0, 256 + 56);
            fitsDue(0, 10, 60);
            x.put(0, 0, 255);
            fitsDue(0, 100, 0);
        });
        says(31, "behind 1, 2, .. YEARS", () -> {
            x.thing(THING, 55, 0, 5);
            x.thing(VESSEL, 0, 0, 5);
            x.sheet(0, BYTES, 40);
            for (int i = 0; i < 40; i++) {
                x.put(0, i, i < 5 ? 50 : 55);
            }
            fitsDue(0, 10, 30);
            x.put(0, 39, 54);
            fitsDue(0, 0, NONE);
            x.sheet(0, SHORTS, 0);
            fitsDue(0, 100, 0);
        });
        says(31, "-1: any", () -> {
            x.thing(THING, 0, 0, 0);
            x.take(0);
            x.sheet(0, BYTES, 1);
            x.put(0, 0, 50);
            fitsDue(0, 100, 0);
            x.put(0, 0, 51);
            fitsDue(0, 0, NONE);
        });
        says(31, "FITS: what = 0 how many WORTHS, 1 the least", () -> {
            unchanged("fits(1, 0, 0)", 0, y -> y.fits(1, 0, 0));
            unchanged("fits(0, 5, 0)", 100, y -> {
                makeRich(y);
                y.sheet(0, BYTES, 0);
            }, y -> y.fits(0, 5, 0));
        });
    }

    private void fitsRefused() {
        says(31, "BAD: no such SHEET, one, what", () -> {
            for (int sheet : new int[] {LOW, -1, 4, HIGH}) {
                refused("fits(" + sheet + ", 0, 0)", BAD, y -> y.fits(sheet, 0, 0));
            }
            for (int thing : new int[] {LOW, -1, 6, 8, HIGH}) {
                refused("fits(0, " + thing + ", 0)", BAD, y -> y.fits(0, thing, 0));
                refused("fits(3, " + thing + ", 0), missing", BAD, y -> y.fits(3, thing, 0));
            }
            for (int what : new int[] {LOW, -1, 2, HIGH}) {
                refused("fits(0, 0, " + what + ")", BAD, y -> y.fits(0, 0, what));
                refused("fits(3, 0, " + what + "), missing", BAD, y -> y.fits(3, 0, what));
            }
        });
        says(31, "-11", () -> {
            refused("fits(3, 0, 0)", NOTHING, y -> y.fits(3, 0, 0));
            refused("fits(3, 0, 1)", NOTHING, y -> y.fits(3, 0, 1));
        });
        says(31, "NONE (what 1): none", () -> {
            refused("fits(0, 0, 1)", NONE, y -> y.fits(0, 0, 1));
            unchanged("fits(0, 0, 0)", 0, y -> y.fits(0, 0, 0));
        });
    }

    private void oddsDue(int n, int k, long over, long under) {
        due("odds(" + n + ", " + k + ", 0)", x.odds(n, k, 0), over);
        due("odds(" + n + ", " + k + ", 1)", x.odds(n, k, 1), under);
    }

    private void odds() {
        says(32, "ODDS by n, k: that of n things just k slip, each by SLIP of a hundred", () -> {
            oddsDue(1, 1, 1, 5);
            oddsDue(1, 0, 4, 5);
            oddsDue(2, 1, 8, 25);
            oddsDue(4, 2, 96, 625);
            x.set(SLIP, 50);
            oddsDue(8, 4, 35, 128);
            oddsDue(8, 0, 1, 256);
            x.set(SLIP, 99);
            oddsDue(8, 8, 9227446944279201L, 10000000000000000L);
            oddsDue(8, 0, 1, 10000000000000000L);
            x.set(SLIP, 33);
            oddsDue(8, 8, 1406408618241L, 10000000000000000L);
        });
        says(32, "ODDS by n (0 to 8), k (0 to n): a part of them", () -> {
            for (int slip = 0; slip <= 99; slip += 9) {
                x.set(SLIP, slip);
                for (int n = 0; n <= 8; n += slip % 2 == 0 ? 2 : 8) {
                    due("all k of " + n + " by " + slip, sumOfOdds(n), hundreds(n));
                }
            }
        });
        says(32, "A part of a fraction: 0 above the line, 1 below it, without a common divisor, below above 0 (0 "
            + "is 0 by 1)", () -> {
                oddsDue(0, 0, 1, 1);
                x.set(SLIP, 0);
                oddsDue(8, 0, 1, 1);
                oddsDue(8, 8, 0, 1);
                oddsDue(8, 1, 0, 1);
                oddsDue(0, 0, 1, 1);
                x.set(SLIP, 25);
                oddsDue(1, 1, 1, 4);
                oddsDue(2, 1, 3, 8);
            });
        says(32, "BAD", () -> {
            for (int n : new int[] {LOW, -1, 9, HIGH}) {
                refused("odds(" + n + ", 0, 0)", BAD, y -> y.odds(n, 0, 0));
            }
            for (int k : new int[] {LOW, -1, 4, HIGH}) {
                refused("odds(3, " + k + ", 0)", BAD, y -> y.odds(3, k, 0));
            }
            refused("odds(0, 1, 1)", BAD, y -> y.odds(0, 1, 1));
            refused("odds(8, 9, 1)", BAD, y -> y.odds(8, 9, 1));
            for (int part : new int[] {LOW, -1, 2, HIGH}) {
                refused("odds(3, 1, " + part + ")", BAD, y -> y.odds(3, 1, part));
            }
        });
    }

    /** Of all k together, taken to 100 to the n below the line. */
    private long sumOfOdds(int n) {
        long under = hundreds(n);
        long sum = 0;
        for (int k = 0; k <= n; k++) {
            sum += x.odds(n, k, 0) * (under / x.odds(n, k, 1));
        }
        return sum;
    }

    private static long hundreds(int n) {
        long all = 1;
        for (int i = 0; i < n; i++) {
            all *= 100;
        }
        return all;
    }

    private void hopeDue(int n, long over, long under) {
        due("hope(" + n + ", 0)", x.hope(n, 0), over);
        due("hope(" + n + ", 1)", x.hope(n, 1), under);
    }

    private void hopes() {
        says(33, "HOPE by n: how many do on average", () -> {
            hopeDue(1, 1, 5);
            hopeDue(5, 1, 1);
            hopeDue(10, 2, 1);
            x.set(SLIP, 35);
            hopeDue(99, 693, 20);
        });
        says(33, "HOPE by n (0 to 99): a part of it", () -> {
            hopeDue(0, 0, 1);
            x.set(SLIP, 99);
            hopeDue(99, 9801, 100);
            hopeDue(1, 99, 100);
            hopeDue(0, 0, 1);
        });
        says(33, "(0 is 0 by 1)", () -> {
            x.set(SLIP, 0);
            hopeDue(0, 0, 1);
            hopeDue(99, 0, 1);
        });
        says(33, "BAD", () -> {
            for (int n : new int[] {LOW, -1, 100, HIGH}) {
                refused("hope(" + n + ", 0)", BAD, y -> y.hope(n, 0));
            }
            for (int part : new int[] {LOW, -1, 2, HIGH}) {
                refused("hope(1, " + part + ")", BAD, y -> y.hope(1, part));
            }
        });
    }
}
