import java.util.ArrayList;
import java.util.List;

/**
 * Asks one object for all that can be seen of it, what is kept and what is on THE TAPE too: the
 * object is of no use afterwards. Some 350 calls.
 */
final class Probe {
    private final SampleLayers x;
    private final List<String> answers = new ArrayList<>();

    private Probe(SampleLayers x) {
        this.x = x;
    }

    static List<String> answers(SampleLayers x) {
        Probe probe = new Probe(x);
        probe.seeStreet("");
        probe.seeRowsAndSheets();
        probe.seeShelvesAndTrace();
        probe.add("street()", x.street());
        probe.seeStreet("behind street(): ");
        probe.add("again()", x.again());
        probe.seeStreet("behind again(): ");
        return probe.answers;
    }

    private void add(String call, long answer) {
        answers.add(call + " = " + answer);
    }

    private void seeStreet(String when) {
        for (int law = 0; law < 4; law++) {
            add(when + "lawOf " + law, x.lawOf(law));
        }
        for (int what = 0; what < 6; what++) {
            add(when + "state " + what, x.state(what));
        }
        for (int what = 0; what < 7; what++) {
            add(when + "many " + what, x.many(what));
        }
        int z = x.seed(0);
        x.seed(z);
        add(when + "z", z);
        int things = x.many(0);
        for (int thing = 0; thing < things; thing++) {
            for (int what = 0; what < 4; what++) {
                add(when + "of " + thing + " " + what, x.of(thing, what));
            }
            add(when + "above " + thing, x.above(thing));
        }
    }

    private void seeRowsAndSheets() {
        int rows = x.many(4);
        for (int i = 0; i < rows; i++) {
            for (int what = 0; what < 3; what++) {
                add("row " + i + " " + what, x.row(i, what));
            }
        }
        for (int sheet = 0; sheet < 4; sheet++) {
            int sort = sortOf(sheet);
            add("sort of " + sheet, sort);
            for (int i = 0; sort >= 0 && x.item(sheet, sort, i) != -12; i++) {
                add("item " + sheet + " " + i, x.item(sheet, sort, i));
            }
        }
    }

    /** -1 if it is missing. */
    private int sortOf(int sheet) {
        for (int sort = 0; sort < 4; sort++) {
            int size = x.item(sheet, sort, -1);
            if (size == -12) {
                return sort;
            }
        }
        return -1;
    }

    private void seeShelvesAndTrace() {
        for (int shelf = 0; shelf < 4; shelf++) {
            for (int as : new int[] {0, 1, 2, 3, 4, 5, 10, 11, 12, 13}) {
                add("taken " + shelf + " " + as, x.taken(shelf, as));
            }
        }
        for (int i = 0; i < x.many(6); i++) {
            add("trace " + i, x.trace(i));
        }
    }
}
