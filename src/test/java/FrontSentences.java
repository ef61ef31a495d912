import java.lang.reflect.Field;
import java.lang.reflect.Method;
import java.lang.reflect.Modifier;
import java.util.List;
import java.util.Random;

/** What the document says ahead of the face and behind the promises, by one street that is told. */
final class FrontSentences extends Sentences {
    private static final int MOST_CALLS = 512;
    private static final int THIMBLE = 0, GOOD_DEED = 1, COMPOSED = 2, BAND = 3;
    private static final String STREET = "thing in 0 worth 35 truth 2;vessel in 0 worth 80 truth 9;"
        + "rubbish in 1 worth 40;sand in 5 worth 60 truth 7;";

    FrontSentences(Document document, Check check) {
        super(document, check);
    }

    @Override
    void all() {
        street();
        pits();
        thoughts();
        bestPlaces();
        others();
        calls();
        notPromised();
    }

    private void tellStreet() {
        due("things told", Tapes.tell(x, STREET), 4);
    }

    private void street() {
        says(Document.WHAT_IT_IS, "# SampleLayers", () ->
            due("the class is named so", SampleLayers.class.getName().equals("SampleLayers") ? 1 : 0, 1));
        says(Document.WHAT_IT_IS, "Housework of the far future: it is known in that street what will be made of them, a "
            + "hill, and so they try to leave something decent in the layers", () -> {
                tellStreet();
                int known = x.thought(6);
                due("known ahead", known, 58);
                due("made of them", x.years(6), known);
            });
        says(Document.WHAT_IT_IS, "a woman on her knees is doing it for a student with a brush, she puts down, by the "
            + "range, about a foot apart, a thimble and a good deed", () -> {
                due("a thimble", x.thing(THING, 35, 2, 0), THIMBLE);
                due("a good deed", x.thing(VESSEL, 80, 9, 0), GOOD_DEED);
                due("the student finds both", x.years(1), 63);
                due("none lies", x.many(1), 0);
            });
        says(Document.WHAT_IT_IS, "they quarrel as to who's to be the sample, rubbish is composed", () -> {
            tellStreet();
            due("a better one speaks more as rubbish", x.does(COMPOSED, 0), 1002);
            x.value(COMPOSED, 9);
            due("than a worse one", x.does(COMPOSED, 0), 998);
        });
        says(Document.WHAT_IT_IS, "and down the end they've a bit of bare ground, fenced, it's to be a band about so "
            + "thick, quite clean, of sand, to make them ask, up there", () -> {
                tellStreet();
                due("the last PIT", x.pit(5, 1), BAND);
                x.shelf(0, 0, BAND);
                due("asks", x.act(0, ASKS, 1), 85);
            });
    }

    private void pits() {
        says(Document.WHAT_IT_IS, "pits with things of kinds one above the other, each of a worth and a truth, by which "
            + "how much it speaks, how deep it hides", () -> {
                tellStreet();
                due("KIND", x.of(GOOD_DEED, 0), VESSEL);
                due("one above the other", x.above(THIMBLE), 1 << GOOD_DEED);
                due("WORTH", x.of(THIMBLE, 1), 35);
                due("TRUTH", x.of(GOOD_DEED, 2), 9);
                due("how much it speaks", x.does(GOOD_DEED, 0), 1010);
                due("how deep it hides", x.does(GOOD_DEED, 1), 1002);
            });
        says(Document.WHAT_IT_IS, "a reader who digs from pit to pit and thinks by what is found; years", () -> {
            tellStreet();
            int[] thought = {63, 65, 65, 65, 65, 58, 58};
            for (int year = 0; year < thought.length; year++) {
                due("AT", x.state(2), year % 6);
                due("YEAR", x.state(0), year);
                due("behind YEAR " + year, x.years(1), thought[year]);
            }
        });
    }

    private void thoughts() {
        says(Document.WHAT_IT_IS, "what is thought, when a thing is found, when all are, when they are well thought of",
            () -> {
                tellStreet();
                due("thought(1)", x.thought(1), 63);
                due("thought(2)", x.thought(2), 65);
                due("thought(60)", x.thought(60), 58);
                due("the thimble", x.dug(THIMBLE), 1);
                due("the rubbish", x.dug(COMPOSED), 2);
                due("the sand", x.dug(BAND), 6);
                due("all", x.empty(), 6);
                due("well thought of", x.praised(64), 2);
                due("better", x.praised(66), NONE);
            });
    }

    private void bestPlaces() {
        says(Document.WHAT_IT_IS, "in which pit, as what, of what worth a thing had best be, where to begin, what to "
            + "take away, the fewest pits in which there is one of every kind", () -> {
                tellStreet();
                due("in which pit", x.pitFor(BAND, 6), 3);
                due("as what", x.kindFor(BAND, 6), SHOE);
                due("of what worth", x.worthFor(THIMBLE, 6, 60), 50);
                due("where to begin", x.beginFor(6), 2);
                due("what to take away", x.awayFor(6, 65), 1 << BAND);
                due("the fewest pits", x.state(5), 1 | 2 | 32);
            });
    }

    private void others() {
        says(Document.WHAT_IT_IS, "of what worth a thing was, from what was thought", () -> {
            tellStreet();
            x.sheet(0, BYTES, 2);
            x.put(0, 0, 63);
            x.put(0, 1, 65);
            due("how many", x.fits(0, GOOD_DEED, 0), 10);
            due("the least", x.fits(0, GOOD_DEED, 1), 80);
        });
        says(Document.WHAT_IT_IS, "odds of slips", () -> {
            due("one of two", x.odds(2, 1, 0) * 100 + x.odds(2, 1, 1), 825);
            due("of four on average", x.hope(4, 0) * 100 + x.hope(4, 1), 405);
        });
        says(Document.WHAT_IT_IS, "a street told in a text", this::tellStreet);
        says(Document.WHAT_IT_IS, "years by draws", () -> {
            tellStreet();
            x.set(SLIP, 0);
            due("without slips as a YEAR", x.year(), 63);
            due("two draws", x.seed(1), drawn(drawn(1)));
        });
        says(Document.WHAT_IT_IS, "rows of years", () -> {
            tellStreet();
            due("six", x.prove(BAND, 6), 6);
            due("it lies", x.row(4, 0), 1);
            due("it is found", x.row(5, 0), 0);
            due("all is right", x.judge(BAND), 0);
        });
        says(Document.WHAT_IT_IS, "things of kinds with acts", () -> {
            tellStreet();
            x.shelf(0, 0, GOOD_DEED);
            due("shows", x.act(0, SHOWS, 1), 8);
            due("as a vessel", x.trace(0), 20);
            due("as the thing under it", x.trace(1), 11);
        });
        says(Document.WHAT_IT_IS, "streets kept", () -> {
            tellStreet();
            x.keep();
            x.years(6);
            due("again", x.again(), 4);
            due("all lie", x.state(3), 15);
        });
    }

    private void calls() {
        says(Document.WHAT_IT_IS, "An object is used for at most 512 calls after it has been made", () -> {
            for (int i = 0; i < 8; i++) {
                x.thing(MOSAIC, 99, i, i % 3);
            }
            int least = x.awayFor(20, 70);
            for (int i = 9; i < MOST_CALLS - 1; i++) {
                x.awayFor(20, 70);
            }
            due("the last of the dearest ones", x.awayFor(20, 70), least);
        });
        says(Document.WHAT_IT_IS, "at most 512 calls", () -> {
            x.thing(THING, 10, 0, 0);
            x.thing(THING, 10, 0, 0);
            for (int i = 2; i < MOST_CALLS - 1; i++) {
                x.lay(i % 2, 0);
            }
            due("above the one laid before the last", x.above(1), 1);
        });
        says(Document.WHAT_IT_IS, "after it has been made", () -> {
            for (int i = 0; i < MOST_CALLS - 1; i++) {
                x.years(60);
            }
            due("YEAR", x.state(0), 60 * (MOST_CALLS - 1));
        });
        says(Document.WHAT_IT_IS, "what later calls answer is free", () -> {
            for (int i = 0; i < 8; i++) {
                x.thing(RUBBISH, 99, 9, i % 6);
            }
            for (int i = 0; i < 3 * MOST_CALLS; i++) {
                x.lay(i % 8, i % 6);
                x.years(60);
            }
            due("a new object is new", new SampleLayers().state(0), 0);
        });
    }

    private void notPromised() {
        says(Document.NOT_PROMISED, "How the state is held inside the object is free", () -> {
            for (Field field : SampleLayers.class.getDeclaredFields()) {
                holds(field + " is private, or a constant", Modifier.isPrivate(field.getModifiers())
                    || Modifier.isStatic(field.getModifiers()) && Modifier.isFinal(field.getModifiers()));
            }
        });
        says(Document.NOT_PROMISED, "as are the speed of each call", () -> {
            for (int i = 0; i < MOST_CALLS; i++) {
                x.luck(30);
            }
            due("512 of them end", new SampleLayers().luck(30), 0);
        });
        says(Document.NOT_PROMISED, "the text of toString and the behaviour of equals and hashCode", () -> {
            for (Method method : SampleLayers.class.getDeclaredMethods()) {
                holds(method + " is none of these",
                    !List.of("toString", "equals", "hashCode").contains(method.getName()));
            }
        });
        says(Document.NOT_PROMISED, "Use of one object from several threads at once is not promised to be safe", () -> {
            int[] got = new int[8];
            Thread[] all = new Thread[got.length];
            for (int i = 0; i < all.length; i++) {
                int seed = i % 2;
                int at = i;
                all[i] = new Thread(() -> got[at] = drawnRun(seed));
                all[i].start();
            }
            for (int i = 0; i < all.length; i++) {
                join(all[i]);
                due("an object of a thread of its own", got[i], drawnRun(i % 2));
            }
        });
        says(Document.NOT_PROMISED, "Nothing is promised beyond the answers and state changes described above", () -> {
            makeRich(x);
            sameAs("the same calls make the same", Sentences::makeRich, x);
        });
        says(Document.NOT_PROMISED, "and nothing about an object after its 512th call.", () -> {
            SampleLayers other = new SampleLayers();
            for (int i = 0; i < 2 * MOST_CALLS; i++) {
                other.thing(SAND, 99, 9, i % 6);
                other.set(i % 4, 9);
                other.years(60);
            }
            sameAs("an object has nothing of another one", y -> { }, x);
        });
    }

    /** One number that all answers of a drawn run on a new object make. */
    private static int drawnRun(int seed) {
        Random draws = new Random(seed);
        SampleLayers one = new SampleLayers();
        int all = 0;
        for (int i = 0; i < 8; i++) {
            all = 31 * all + one.thing(draws.nextInt(6), draws.nextInt(100), draws.nextInt(10), draws.nextInt(6));
        }
        for (int i = 0; i < 100; i++) {
            all = 31 * all + one.lay(draws.nextInt(8), draws.nextInt(6));
            all = 31 * all + one.year();
            all = 31 * all + one.pitFor(draws.nextInt(8), 20);
            all = 31 * all + one.luck(30);
        }
        return all;
    }

    private static void join(Thread thread) {
        try {
            thread.join();
        } catch (InterruptedException e) {
            throw new IllegalStateException(e);
        }
    }
}
