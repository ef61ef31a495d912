import java.util.Random;

/** Long runs of drawn calls, each answered by the program and by Model, which must agree. */
public final class RandomRunsTest {
    private static final int RUNS = 3000, CALLS = 512;
    private static final int[] EXTREMES = {Integer.MIN_VALUE, Integer.MIN_VALUE + 1, -1000, -2, -1,
        100, 128, 200, 255, 1000, 65536, Integer.MAX_VALUE - 1, Integer.MAX_VALUE};
    private static final String[] WORDS = {"thing", "vessel", "rubbish", "mosaic", "shoe", "sand", "in",
        "worth", "truth", "reader", "opinion", "dig", "shine", "filth", "slip", ";", ";", "0", "1", "2",
        "5", "6", "9", "10", "99", "100", "007", "0001", " ", "  ", "A", "-", "things", "\u00e9", "\t"};

    private final Random draws;
    private final Check check;
    private final SampleLayers program = new SampleLayers();
    private final Model model = new Model();

    private RandomRunsTest(long seed, Check check) {
        draws = new Random(seed);
        this.check = check;
    }

    public static void main(String[] args) {
        Check check = new Check();
        for (int run = 0; run < RUNS; run++) {
            new RandomRunsTest(run, check).run(run);
        }
        check.end();
    }

    private void run(int run) {
        int calls = 0;
        while (calls < CALLS) {
            if (draws.nextInt(12) == 0) {
                calls += tellStreet(run, Math.min(26, CALLS - calls));
            } else {
                call(run, draws.nextInt(60));
                calls++;
            }
        }
    }

    private int from(int least, int most) {
        if (draws.nextInt(40) == 0) {
            return EXTREMES[draws.nextInt(EXTREMES.length)];
        }
        return least + draws.nextInt(most - least + 1);
    }

    private int tellStreet(int run, int mostCalls) {
        String text = drawnText();
        int calls = 0;
        int at = 0;
        while (at < text.length() && calls < mostCalls - 1) {
            int n = Math.min(8, text.length() - at);
            long eight = draws.nextLong();
            for (int i = n - 1; i >= 0; i--) {
                eight = eight << 8 | text.charAt(at + i) & 255;
            }
            same(run, "feed(" + eight + ", " + n + ")", program.feed(eight, n), model.feed(eight, n));
            at += n;
            calls++;
        }
        same(run, "street() of " + text, program.street(), model.street());
        return calls + 1;
    }

    private String drawnText() {
        StringBuilder text = new StringBuilder();
        int statements = draws.nextInt(11);
        boolean isShort = draws.nextInt(3) > 0;
        for (int i = 0; i < statements; i++) {
            addStatement(text, isShort);
        }
        if (draws.nextInt(3) == 0) {
            for (int i = draws.nextInt(3); i >= 0; i--) {
                spoil(text);
            }
        }
        if (text.length() > 200) {
            text.setLength(200);
        }
        return text.toString();
    }

    private void addStatement(StringBuilder text, boolean isShort) {
        blanks(text);
        if (draws.nextInt(4) > 0) {
            text.append(WORDS[draws.nextInt(6)]).append(' ');
            blanks(text);
            text.append("in").append(draws.nextInt(8) == 0 ? "" : " ").append(draws.nextInt(6));
            if (!isShort && draws.nextBoolean()) {
                text.append(" worth ").append(draws.nextInt(100));
            }
            if (draws.nextBoolean()) {
                text.append(" truth ").append(draws.nextInt(10));
            }
        } else {
            int setting = 9 + draws.nextInt(6);
            int most = setting == 9 ? 6 : setting == 10 || setting == 14 ? 100 : 10;
            text.append(WORDS[setting]).append(' ').append(draws.nextInt(most));
        }
        blanks(text);
        text.append(';');
        blanks(text);
    }

    private void blanks(StringBuilder text) {
        for (int i = draws.nextInt(8); i > 6; i--) {
            text.append(' ');
        }
    }

    private void spoil(StringBuilder text) {
        int place = draws.nextInt(text.length() + 1);
        String word = WORDS[draws.nextInt(WORDS.length)];
        switch (draws.nextInt(5)) {
            case 0: text.insert(place, word); break;
            case 1: text.insert(place, " " + word + " "); break;
            case 2: text.setLength(place); break;
            case 3: text.delete(place, Math.min(text.length(), place + 1)); break;
            default: text.append(word); break;
        }
    }

    private void same(int run, String call, long got, long want) {
        check.due("run " + run + ": " + call, got, want);
    }

    private void call(int run, int which) {
        int thing = from(0, 7);
        int pit = from(0, 5);
        int shelf = from(0, 3);
        int n = from(0, 20);
        int hundred = from(0, 99);
        switch (which) {
            case 0: {
                int law = from(0, 3);
                int v = law == 3 ? hundred : from(0, 9);
                same(run, "set " + law + " " + v, program.set(law, v), model.set(law, v));
                break;
            }
            case 1:
                same(run, "lawOf " + shelf, program.lawOf(shelf), model.lawOf(shelf));
                break;
            case 2: case 3: case 4: case 5: {
                int kind = from(0, 5);
                int truth = from(0, 9);
                same(run, "thing " + kind + " " + hundred + " " + truth + " " + pit,
                        program.thing(kind, hundred, truth, pit), model.thing(kind, hundred, truth, pit));
                break;
            }
            case 6: case 7: {
                int what = from(0, 4);
                same(run, "of " + thing + " " + what, program.of(thing, what), model.of(thing, what));
                break;
            }
            case 8: case 9: {
                int what = from(0, 1);
                same(run, "does " + thing + " " + what, program.does(thing, what), model.does(thing, what));
                break;
            }
            case 10: case 11: {
                int kind = from(0, 5);
                int truth = from(0, 9);
                same(run, "mind " + thing + " " + kind + " " + truth,
                        program.mind(thing, kind, truth), model.mind(thing, kind, truth));
                break;
            }
            case 12:
                same(run, "value " + thing + " " + hundred,
                        program.value(thing, hundred), model.value(thing, hundred));
                break;
            case 13: case 14: case 15:
                same(run, "lay " + thing + " " + pit, program.lay(thing, pit), model.lay(thing, pit));
                break;
            case 16:
                same(run, "take " + thing, program.take(thing), model.take(thing));
                break;
            case 17:
                same(run, "bring " + pit, program.bring(pit), model.bring(pit));
                break;
            case 18:
                same(run, "think " + hundred, program.think(hundred), model.think(hundred));
                break;
            case 19: case 20: {
                int what = from(0, 1);
                same(run, "pit " + pit + " " + what, program.pit(pit, what), model.pit(pit, what));
                break;
            }
            case 21: {
                int few = draws.nextInt(20) == 0 ? from(0, 61) : from(0, 3);
                same(run, "years " + few, program.years(few), model.years(few));
                break;
            }
            case 22: {
                int v = draws.nextBoolean() ? draws.nextInt() : from(0, 99);
                same(run, "seed " + v, program.seed(v), model.seed(v));
                break;
            }
            case 23:
                same(run, "year", program.year(), model.year());
                break;
            case 24: {
                int many = from(0, 31);
                same(run, "luck " + many, program.luck(many), model.luck(many));
                break;
            }
            case 25: case 26: case 27: {
                int what = from(0, 6);
                same(run, "state " + what, program.state(what), model.state(what));
                break;
            }
            case 28: {
                int far = from(0, 61);
                same(run, "thought " + far, program.thought(far), model.thought(far));
                break;
            }
            case 29:
                same(run, "dug " + thing, program.dug(thing), model.dug(thing));
                break;
            case 30:
                same(run, "empty", program.empty(), model.empty());
                break;
            case 31:
                same(run, "praised " + hundred, program.praised(hundred), model.praised(hundred));
                break;
            case 32:
                same(run, "pitFor " + thing + " " + n, program.pitFor(thing, n), model.pitFor(thing, n));
                break;
            case 33:
                same(run, "kindFor " + thing + " " + n, program.kindFor(thing, n), model.kindFor(thing, n));
                break;
            case 34: {
                int v = aimed();
                same(run, "worthFor " + thing + " " + n + " " + v,
                        program.worthFor(thing, n, v), model.worthFor(thing, n, v));
                break;
            }
            case 35:
                same(run, "beginFor " + n, program.beginFor(n), model.beginFor(n));
                break;
            case 36: {
                int v = aimed();
                same(run, "awayFor " + n + " " + v, program.awayFor(n, v), model.awayFor(n, v));
                break;
            }
            case 37:
                same(run, "above " + thing, program.above(thing), model.above(thing));
                break;
            default:
                callOfSheets(run, which, thing, shelf);
                break;
        }
    }

    /** A little more than is thought, so that the answers are seldom the plainest ones. */
    private int aimed() {
        int thought = model.thought(1 + draws.nextInt(20));
        return draws.nextInt(3) == 0 ? from(0, 99) : Math.min(99, thought + draws.nextInt(12));
    }

    private void callOfSheets(int run, int which, int thing, int shelf) {
        int i = from(-1, 5);
        int what = from(0, 2);
        int sheet = from(0, 3);
        switch (which) {
            case 38: case 39: {
                tellWhatIsThought(run, sheet);
                int asked = from(0, 1);
                same(run, "fits " + sheet + " " + thing + " " + asked,
                        program.fits(sheet, thing, asked), model.fits(sheet, thing, asked));
                break;
            }
            case 40: {
                int n = from(0, 8);
                int k = from(0, Math.max(0, Math.min(8, n)));
                int part = from(0, 1);
                same(run, "odds " + n + " " + k + " " + part,
                        program.odds(n, k, part), model.odds(n, k, part));
                break;
            }
            case 41: {
                int n = from(0, 100);
                int part = from(0, 1);
                same(run, "hope " + n + " " + part, program.hope(n, part), model.hope(n, part));
                break;
            }
            case 42: {
                int n = from(0, 11);
                same(run, "prove " + thing + " " + n, program.prove(thing, n), model.prove(thing, n));
                break;
            }
            case 43:
                same(run, "row " + i + " " + what, program.row(i, what), model.row(i, what));
                break;
            case 44: {
                int v = draws.nextBoolean() ? model.row(i, what) : from(0, 99);
                same(run, "alterRow " + i + " " + what + " " + v,
                        program.alterRow(i, what, v), model.alterRow(i, what, v));
                break;
            }
            case 45: case 46:
                same(run, "judge " + thing, program.judge(thing), model.judge(thing));
                break;
            case 47: {
                int n = from(0, 8);
                same(run, "minds " + sheet + " " + i + " " + thing + " " + n,
                        program.minds(sheet, i, thing, n), model.minds(sheet, i, thing, n));
                break;
            }
            case 48: case 49: {
                int sort = draws.nextInt(3) == 0 ? 0 : from(-1, 3);
                int n = draws.nextInt(8) == 0 ? from(-1, 41) : from(0, 6);
                same(run, "sheet " + sheet + " " + sort + " " + n,
                        program.sheet(sheet, sort, n), model.sheet(sheet, sort, n));
                break;
            }
            case 50: case 51: {
                int v = draws.nextBoolean() ? draws.nextInt() : from(0, 99);
                same(run, "put " + sheet + " " + i + " " + v,
                        program.put(sheet, i, v), model.put(sheet, i, v));
                break;
            }
            case 52: {
                int sort = from(0, 3);
                same(run, "item " + sheet + " " + sort + " " + i,
                        program.item(sheet, sort, i), model.item(sheet, sort, i));
                break;
            }
            case 53: {
                int n = from(0, 7);
                same(run, "shelf " + shelf + " " + what + " " + n,
                        program.shelf(shelf, what, n), model.shelf(shelf, what, n));
                break;
            }
            case 54: {
                int as = from(0, 14);
                same(run, "taken " + shelf + " " + as, program.taken(shelf, as), model.taken(shelf, as));
                break;
            }
            case 55: case 56:
                act(run, shelf);
                break;
            case 57:
                same(run, "many " + what, program.many(what), model.many(what));
                same(run, "many " + (3 + i), program.many(3 + i), model.many(3 + i));
                break;
            case 58:
                same(run, "keep", program.keep(), model.keep());
                break;
            default:
                same(run, "again", program.again(), model.again());
                break;
        }
    }

    /** Puts what is thought behind the next years on a sheet, so that some worths fit it. */
    private void tellWhatIsThought(int run, int sheet) {
        for (int k = draws.nextInt(4); k >= 0; k--) {
            int v = draws.nextInt(3) == 0 ? -1 : model.thought(k + 1);
            same(run, "put " + sheet + " " + k + " " + v, program.put(sheet, k, v), model.put(sheet, k, v));
        }
    }

    private void act(int run, int shelf) {
        int act = from(0, 3);
        int x = draws.nextBoolean() ? draws.nextInt() : from(0, 99);
        same(run, "act " + shelf + " " + act + " " + x, program.act(shelf, act, x), model.act(shelf, act, x));
        for (int i = -1; i <= model.many(6); i++) {
            same(run, "trace " + i, program.trace(i), model.trace(i));
        }
        same(run, "many 6", program.many(6), model.many(6));
    }
}
