/**
 * A street whose people leave things in pits, and the reader who will dig there. What each call
 * promises stands in DOC.md. All rows are made with the object: no call makes anything.
 */
public final class SampleLayers {
    public static final int BAD = -1, FULL = -2, NONE = -3;

    private static final int NO_ROW = -9, NOTHING = -11, OUTSIDE = -12, ANOTHER = -13;
    private static final int BELOW_NONE = -14, PARTED_BY_NONE = -15;

    private static final int DIG = 0, SHINE = 1, FILTH = 2, SLIP = 3, LAWS = 4;
    private static final int THING = 0, VESSEL = 1, RUBBISH = 2, MOSAIC = 3, SHOE = 4, SAND = 5;
    private static final int KINDS = 6, PITS = 6, FOUND = 6, MOST_THINGS = 8, NO_THING = 8;
    private static final int MOST_WORTH = 99, MOST_TRUTH = 9, MOST_OPINION = 99;
    private static final int FAR_YEARS = 60, NEAR_YEARS = 20;

    private static final int ROW_PARTS = 3, MOST_ROWS = 10;
    private static final int SHEETS = 4, MOST_ITEMS = 40, SHELVES = 4;
    private static final int MISSING = -1, BYTES = 0, SHORTS = 1, LONGS = 3;

    private static final int CHANGED_PIT = 0, CHANGED_KIND = 1, CHANGED_BEGIN = 2, CHOICES = 6;

    /** The kind that each kind stands under; thing stands under none. */
    private static final int[] UNDER = {-1, 0, 0, 1, 2, 0};

    private final Street now, tried, kept;
    private final Text tape;
    private final Sheets sheets;
    private final Shelves shelves;
    private final Acts acts;
    private final int[] rows;
    private int rowCount;
    private boolean isKept;

    public SampleLayers() {
        now = new Street();
        tried = new Street();
        kept = new Street();
        tape = new Text();
        sheets = new Sheets();
        shelves = new Shelves();
        acts = new Acts();
        rows = new int[MOST_ROWS * ROW_PARTS];
        rowCount = 0;
        isKept = false;
    }

    public int feed(long eight, int n) {
        if (n < 1 || n > 8) {
            return BAD;
        }
        return tape.append(eight, n);
    }

    public int street() {
        int fault = tape.readInto(tried);
        tape.clear();
        if (fault >= 0) {
            return -100 - fault;
        }
        tried.z = now.z;
        now.become(tried);
        rowCount = 0;
        return now.count;
    }

    public int set(int law, int v) {
        if (!within(law, LAWS - 1) || !within(v, mostOfLaw(law))) {
            return BAD;
        }
        int was = now.laws[law];
        now.laws[law] = v;
        return was;
    }

    public int lawOf(int law) {
        return within(law, LAWS - 1) ? now.laws[law] : BAD;
    }

    public int thing(int kind, int worth, int truth, int pit) {
        if (!within(kind, KINDS - 1) || !within(worth, MOST_WORTH)
                || !within(truth, MOST_TRUTH) || !within(pit, PITS - 1)) {
            return BAD;
        }
        if (now.count >= MOST_THINGS) {
            return FULL;
        }
        return now.add(kind, worth, truth, pit);
    }

    public int of(int thing, int what) {
        if (!now.has(thing)) {
            return BAD;
        }
        switch (what) {
            case 0: return now.kinds[thing];
            case 1: return now.worths[thing];
            case 2: return now.truths[thing];
            case 3: return now.places[thing];
            case 4: return Integer.bitCount(now.setAbove(thing));
            default: return BAD;
        }
    }

    public int does(int thing, int what) {
        if (!now.has(thing) || !within(what, 1)) {
            return BAD;
        }
        return 1000 + (what == 0 ? now.speaking(thing) : now.hiding(thing));
    }

    public int mind(int thing, int kind, int truth) {
        if (!now.has(thing) || !within(kind, KINDS - 1) || !within(truth, MOST_TRUTH)) {
            return BAD;
        }
        int was = now.kinds[thing];
        now.kinds[thing] = kind;
        now.truths[thing] = truth;
        return was;
    }

    public int value(int thing, int v) {
        if (!now.has(thing) || !within(v, MOST_WORTH)) {
            return BAD;
        }
        int was = now.worths[thing];
        now.worths[thing] = v;
        return was;
    }

    public int lay(int thing, int pit) {
        if (!now.has(thing) || !within(pit, PITS - 1)) {
            return BAD;
        }
        int was = now.places[thing];
        now.layIn(thing, pit);
        return was;
    }

    public int take(int thing) {
        if (!now.has(thing)) {
            return BAD;
        }
        if (!now.lies(thing)) {
            return NONE;
        }
        now.places[thing] = FOUND;
        return Integer.bitCount(now.setLying());
    }

    public int bring(int pit) {
        if (!within(pit, PITS - 1)) {
            return BAD;
        }
        int was = now.at;
        now.at = pit;
        return was;
    }

    public int think(int v) {
        if (!within(v, MOST_OPINION)) {
            return BAD;
        }
        int was = now.opinion;
        now.opinion = v;
        return was;
    }

    public int pit(int pit, int what) {
        if (!within(pit, PITS - 1) || !within(what, 1)) {
            return BAD;
        }
        return what == 0 ? now.setIn(pit) : now.uppermost(pit);
    }

    public int years(int n) {
        if (n < 1 || n > FAR_YEARS) {
            return BAD;
        }
        now.passYears(n);
        return now.opinion;
    }

    public int seed(int v) {
        int was = now.z;
        now.z = v;
        return was;
    }

    public int year() {
        now.passDrawnYear();
        return now.opinion;
    }

    public int luck(int n) {
        if (n < 1 || n > 30) {
            return BAD;
        }
        int plain = opinionBehind(1);
        int z = now.z;
        int many = 0;
        for (int i = 0; i < n; i++) {
            tried.become(now);
            tried.z = z;
            tried.passDrawnYear();
            z = tried.z;
            if (tried.opinion > plain) {
                many++;
            }
        }
        return many;
    }

    public int state(int what) {
        switch (what) {
            case 0: return now.year;
            case 1: return now.opinion;
            case 2: return now.at;
            case 3: return now.setLying();
            case 4: return now.worthLying();
            case 5: return now.cover();
            default: return BAD;
        }
    }

    public int thought(int n) {
        return within(n, FAR_YEARS) ? opinionBehind(n) : BAD;
    }

    public int dug(int thing) {
        if (!now.has(thing)) {
            return BAD;
        }
        tried.become(now);
        for (int behind = 0; behind <= FAR_YEARS; behind++) {
            if (!tried.lies(thing)) {
                return behind;
            }
            tried.passYear();
        }
        return NONE;
    }

    public int empty() {
        tried.become(now);
        for (int behind = 0; behind <= FAR_YEARS; behind++) {
            if (tried.setLying() == 0) {
                return behind;
            }
            tried.passYear();
        }
        return NONE;
    }

    public int praised(int v) {
        if (!within(v, MOST_OPINION)) {
            return BAD;
        }
        tried.become(now);
        for (int behind = 0; behind <= FAR_YEARS; behind++) {
            if (tried.opinion >= v) {
                return behind;
            }
            tried.passYear();
        }
        return NONE;
    }

    public int pitFor(int thing, int n) {
        if (!now.has(thing) || !isNear(n)) {
            return BAD;
        }
        return now.lies(thing) ? bestChange(CHANGED_PIT, thing, n) : NONE;
    }

    public int kindFor(int thing, int n) {
        if (!now.has(thing) || !isNear(n)) {
            return BAD;
        }
        return now.lies(thing) ? bestChange(CHANGED_KIND, thing, n) : NONE;
    }

    public int worthFor(int thing, int n, int v) {
        if (!now.has(thing) || !isNear(n) || !within(v, MOST_OPINION)) {
            return BAD;
        }
        if (!now.lies(thing)) {
            return NONE;
        }
        for (int worth = 0; worth <= MOST_WORTH; worth++) {
            tried.become(now);
            tried.worths[thing] = worth;
            tried.passYears(n);
            if (tried.opinion >= v) {
                return worth;
            }
        }
        return NONE;
    }

    public int beginFor(int n) {
        return isNear(n) ? bestChange(CHANGED_BEGIN, 0, n) : BAD;
    }

    public int awayFor(int n, int v) {
        if (!isNear(n) || !within(v, MOST_OPINION)) {
            return BAD;
        }
        int lying = now.setLying();
        int best = NONE;
        int fewest = MOST_THINGS + 1;
        for (int set = 0; set <= lying; set++) {
            int size = Integer.bitCount(set);
            if ((set & ~lying) == 0 && size < fewest && opinionWithout(set, n) >= v) {
                best = set;
                fewest = size;
            }
        }
        return best;
    }

    public int above(int thing) {
        return now.has(thing) ? now.setAbove(thing) : BAD;
    }

    public int fits(int sheet, int thing, int what) {
        if (!within(sheet, SHEETS - 1) || !now.has(thing) || !within(what, 1)) {
            return BAD;
        }
        if (sheets.sorts[sheet] == MISSING) {
            return NOTHING;
        }
        int many = 0;
        int least = NONE;
        for (int worth = MOST_WORTH; worth >= 0; worth--) {
            if (fitsWith(sheet, thing, worth)) {
                many++;
                least = worth;
            }
        }
        return what == 0 ? many : least;
    }

    public long odds(int n, int k, int part) {
        if (!within(n, 8) || !within(k, n) || !within(part, 1)) {
            return BAD;
        }
        long slips = now.laws[SLIP];
        long over = ways(n, k) * power(slips, k) * power(100 - slips, n - k);
        return partOf(over, power(100, n), part);
    }

    public long hope(int n, int part) {
        if (!within(n, 99) || !within(part, 1)) {
            return BAD;
        }
        return partOf((long) n * now.laws[SLIP], 100, part);
    }

    public int prove(int thing, int n) {
        if (!now.has(thing) || n < 1 || n > MOST_ROWS) {
            return BAD;
        }
        tried.become(now);
        for (int i = 0; i < n; i++) {
            tried.passYear();
            for (int what = 0; what < ROW_PARTS; what++) {
                rows[i * ROW_PARTS + what] = triedPart(thing, what);
            }
        }
        rowCount = n;
        return n;
    }

    public int row(int i, int what) {
        return hasRow(i, what) ? rows[i * ROW_PARTS + what] : NO_ROW;
    }

    public int alterRow(int i, int what, int v) {
        if (!hasRow(i, what)) {
            return NO_ROW;
        }
        int was = rows[i * ROW_PARTS + what];
        rows[i * ROW_PARTS + what] = v;
        return was;
    }

    public int judge(int thing) {
        if (!now.has(thing)) {
            return BAD;
        }
        tried.become(now);
        for (int i = 0; i < rowCount; i++) {
            tried.passYear();
            for (int what = 0; what < ROW_PARTS; what++) {
                if (rows[i * ROW_PARTS + what] != triedPart(thing, what)) {
                    return i + 1;
                }
            }
        }
        return 0;
    }

    public int minds(int sheet, int i, int thing, int n) {
        if (!within(sheet, SHEETS - 1) || !now.has(thing) || !within(n, now.count - thing)) {
            return BAD;
        }
        if (sheets.sorts[sheet] == MISSING) {
            return NOTHING;
        }
        if (sheets.sorts[sheet] != BYTES) {
            return ANOTHER;
        }
        int size = sheets.sizes[sheet];
        if (!within(i, size) || n > size - i) {
            return OUTSIDE;
        }
        for (int k = 0; k < n; k++) {
            now.worths[thing + k] = held(sheets.number(sheet, i + k), MOST_WORTH);
        }
        return n;
    }

    public int sheet(int sheet, int sort, int n) {
        if (!within(sheet, SHEETS - 1) || sort < MISSING || sort > LONGS) {
            return BAD;
        }
        if (sort == MISSING) {
            sheets.sorts[sheet] = MISSING;
            return 1;
        }
        if (n > MOST_ITEMS) {
            return BAD;
        }
        if (n < 0) {
            return BELOW_NONE;
        }
        sheets.begin(sheet, sort, n);
        return 1;
    }

    public int put(int sheet, int i, int v) {
        if (!within(sheet, SHEETS - 1)) {
            return BAD;
        }
        if (sheets.sorts[sheet] == MISSING) {
            return NOTHING;
        }
        if (!sheets.holds(sheet, i)) {
            return OUTSIDE;
        }
        sheets.write(sheet, i, v);
        return 1;
    }

    public int item(int sheet, int sort, int i) {
        if (!within(sheet, SHEETS - 1) || !within(sort, LONGS)) {
            return BAD;
        }
        if (sheets.sorts[sheet] == MISSING) {
            return NOTHING;
        }
        if (sheets.sorts[sheet] != sort) {
            return ANOTHER;
        }
        return sheets.holds(sheet, i) ? sheets.number(sheet, i) : OUTSIDE;
    }

    public int shelf(int shelf, int what, int n) {
        if (!within(shelf, SHELVES - 1)) {
            return BAD;
        }
        switch (what) {
            case 0:
                if (!now.has(n)) {
                    return BAD;
                }
                shelves.holdThing(shelf, n);
                return 1;
            case 1:
                if (!within(n, SHEETS - 1)) {
                    return BAD;
                }
                shelves.holdRow(shelf, sheets.sorts[n], sheets.sizes[n]);
                return 1;
            case 2:
                shelves.clear(shelf);
                return 1;
            default:
                return BAD;
        }
    }

    public int taken(int shelf, int as) {
        boolean asThing = within(as, KINDS - 1);
        boolean asRow = as >= 10 && as <= 10 + LONGS;
        if (!within(shelf, SHELVES - 1) || !asThing && !asRow) {
            return BAD;
        }
        if (shelves.holdsRow(shelf)) {
            return asRow && shelves.sorts[shelf] == as - 10 ? shelves.sizes[shelf] : ANOTHER;
        }
        int thing = shelves.things[shelf];
        if (!now.has(thing)) {
            return NOTHING;
        }
        return asThing && isUnder(now.kinds[thing], as) ? thing : ANOTHER;
    }

    public int act(int shelf, int act, int x) {
        acts.clear();
        if (!within(shelf, SHELVES - 1) || !within(act, Acts.ACTS - 1)
                || shelves.holdsRow(shelf)) {
            return 0;
        }
        int thing = shelves.things[shelf];
        if (!now.has(thing)) {
            return 0;
        }
        acts.holdOne(thing, now.kinds[thing], now.truths[thing]);
        return acts.answer(act, x);
    }

    public int trace(int i) {
        return i >= 0 && i < acts.traceCount ? acts.bodies[i] : NONE;
    }

    public int many(int what) {
        switch (what) {
            case 0: return now.count;
            case 1: return Integer.bitCount(now.setLying());
            case 2: return now.count - Integer.bitCount(now.setLying());
            case 3: return now.pitsInUse();
            case 4: return rowCount;
            case 5: return tape.size;
            case 6: return acts.traceCount;
            default: return BAD;
        }
    }

    public int keep() {
        kept.become(now);
        isKept = true;
        return 1;
    }

    public int again() {
        if (!isKept) {
            return NONE;
        }
        now.become(kept);
        return now.count;
    }

    private static boolean within(int v, int most) {
        return v >= 0 && v <= most;
    }

    private static boolean isNear(int n) {
        return n >= 1 && n <= NEAR_YEARS;
    }

    private static int held(int v, int most) {
        return Math.max(0, Math.min(most, v));
    }

    private static int mostOfLaw(int law) {
        return law == SLIP ? 99 : 9;
    }

    private static boolean isUnder(int kind, int upper) {
        int k = kind;
        for (int step = 0; step < KINDS && within(k, KINDS - 1); step++) {
            if (k == upper) {
                return true;
            }
            k = UNDER[k];
        }
        return false;
    }

    private int opinionBehind(int n) {
        tried.become(now);
        tried.passYears(n);
        return tried.opinion;
    }

    private int opinionWithout(int set, int n) {
        tried.become(now);
        for (int i = 0; i < tried.count; i++) {
            if ((set >> i & 1) == 1) {
                tried.places[i] = FOUND;
            }
        }
        tried.passYears(n);
        return tried.opinion;
    }

    /** The least of the six choices of one change behind which opinion is greatest. */
    private int bestChange(int change, int thing, int n) {
        int best = 0;
        int most = -1;
        for (int choice = 0; choice < CHOICES; choice++) {
            tried.become(now);
            changeTried(change, thing, choice);
            tried.passYears(n);
            if (tried.opinion > most) {
                most = tried.opinion;
                best = choice;
            }
        }
        return best;
    }

    private void changeTried(int change, int thing, int choice) {
        switch (change) {
            case CHANGED_PIT:
                tried.layIn(thing, choice);
                break;
            case CHANGED_KIND:
                tried.kinds[thing] = choice;
                break;
            default:
                tried.at = choice;
                break;
        }
    }

    private boolean fitsWith(int sheet, int thing, int worth) {
        tried.become(now);
        tried.worths[thing] = worth;
        for (int i = 0; i < sheets.sizes[sheet]; i++) {
            tried.passYear();
            int told = sheets.number(sheet, i);
            if (told != -1 && told != tried.opinion) {
                return false;
            }
        }
        return true;
    }

    private boolean hasRow(int i, int what) {
        return i >= 0 && i < rowCount && within(what, ROW_PARTS - 1);
    }

    private int triedPart(int thing, int what) {
        switch (what) {
            case 0: return tried.lies(thing) ? 1 : 0;
            case 1: return tried.opinion;
            default: return tried.at;
        }
    }

    private static long ways(int n, int k) {
        long ways = 1;
        for (int i = 1; i <= k; i++) {
            ways = ways * (n - k + i) / i;
        }
        return ways;
    }

    private static long power(long base, int n) {
        long power = 1;
        for (int i = 0; i < n; i++) {
            power *= base;
        }
        return power;
    }

    private static long partOf(long over, long under, int part) {
        long common = under;
        long rest = over;
        // Halves at least every second step, so far fewer than this many steps are needed.
        for (int step = 0; step < 1000 && rest != 0; step++) {
            long next = common % rest;
            common = rest;
            rest = next;
        }
        if (common == 0) {
            return BAD;
        }
        return (part == 0 ? over : under) / common;
    }

    /** All that is kept, and all that is tried: things in pits, the reader, the laws, the draws. */
    private static final class Street {
        final int[] kinds, worths, truths, places, laws;
        /** Of two in one pit, the one with the greater turn lies above. */
        final int[] turns;
        int count, nextTurn, year, at, opinion, z;

        Street() {
            kinds = new int[MOST_THINGS];
            worths = new int[MOST_THINGS];
            truths = new int[MOST_THINGS];
            places = new int[MOST_THINGS];
            turns = new int[MOST_THINGS];
            laws = new int[LAWS];
            z = 1;
            begin();
        }

        /** All but the draws is as at first. */
        void begin() {
            laws[DIG] = 3;
            laws[SHINE] = 2;
            laws[FILTH] = 2;
            laws[SLIP] = 20;
            count = 0;
            nextTurn = 0;
            year = 0;
            at = 0;
            opinion = 50;
        }

        void become(Street other) {
            System.arraycopy(other.kinds, 0, kinds, 0, MOST_THINGS);
            System.arraycopy(other.worths, 0, worths, 0, MOST_THINGS);
            System.arraycopy(other.truths, 0, truths, 0, MOST_THINGS);
            System.arraycopy(other.places, 0, places, 0, MOST_THINGS);
            System.arraycopy(other.turns, 0, turns, 0, MOST_THINGS);
            System.arraycopy(other.laws, 0, laws, 0, LAWS);
            count = other.count;
            nextTurn = other.nextTurn;
            year = other.year;
            at = other.at;
            opinion = other.opinion;
            z = other.z;
        }

        boolean has(int i) {
            return i >= 0 && i < count;
        }

        boolean lies(int i) {
            return i >= 0 && i < count && places[i] != FOUND;
        }

        int add(int kind, int worth, int truth, int place) {
            if (count >= MOST_THINGS) {
                return FULL;
            }
            int i = count;
            count++;
            kinds[i] = kind;
            worths[i] = worth;
            truths[i] = truth;
            layIn(i, place);
            return i;
        }

        void layIn(int i, int place) {
            places[i] = place;
            turns[i] = nextTurn;
            nextTurn++;
        }

        int setLying() {
            int set = 0;
            for (int i = 0; i < count; i++) {
                if (places[i] != FOUND) {
                    set |= 1 << i;
                }
            }
            return set;
        }

        int setIn(int place) {
            int set = 0;
            for (int i = 0; i < count; i++) {
                if (places[i] == place) {
                    set |= 1 << i;
                }
            }
            return set;
        }

        int setAbove(int one) {
            int set = 0;
            if (one < 0 || one >= count || places[one] == FOUND) {
                return set;
            }
            for (int i = 0; i < count; i++) {
                if (places[i] == places[one] && turns[i] > turns[one]) {
                    set |= 1 << i;
                }
            }
            return set;
        }

        int uppermost(int place) {
            int upper = NO_THING;
            int latest = -1;
            for (int i = 0; i < count; i++) {
                if (places[i] == place && turns[i] > latest) {
                    upper = i;
                    latest = turns[i];
                }
            }
            return upper;
        }

        int worthLying() {
            int sum = 0;
            for (int i = 0; i < count; i++) {
                if (places[i] != FOUND) {
                    sum += worths[i];
                }
            }
            return sum;
        }

        int pitsInUse() {
            int many = 0;
            for (int place = 0; place < PITS; place++) {
                if (setIn(place) != 0) {
                    many++;
                }
            }
            return many;
        }

        /** The fewest pits that together have every kind that lies anywhere; of several the least. */
        int cover() {
            int all = kindsIn((1 << PITS) - 1);
            int best = 0;
            int fewest = PITS + 1;
            for (int set = 0; set < 1 << PITS; set++) {
                int size = Integer.bitCount(set);
                if (size < fewest && kindsIn(set) == all) {
                    best = set;
                    fewest = size;
                }
            }
            return best;
        }

        private int kindsIn(int setOfPits) {
            int set = 0;
            for (int i = 0; i < count; i++) {
                if (places[i] != FOUND && (setOfPits >> places[i] & 1) == 1) {
                    set |= 1 << kinds[i];
                }
            }
            return set;
        }

        int speaking(int i) {
            int plain = worths[i] / 10;
            switch (kinds[i]) {
                case VESSEL: return plain + laws[SHINE];
                case MOSAIC: return (plain + laws[SHINE]) * 2;
                case RUBBISH: return plain - laws[FILTH];
                case SHOE: return plain - laws[FILTH] + truths[i];
                case SAND: return year % 3 == 0 ? plain : -truths[i];
                default: return plain;
            }
        }

        int hiding(int i) {
            switch (kinds[i]) {
                case VESSEL: return 2;
                case MOSAIC: return 2 + truths[i];
                case RUBBISH: return 0;
                case SHOE: return 2;
                case SAND: return 1 + Integer.bitCount(setAbove(i));
                default: return 1;
            }
        }

        void passYears(int n) {
            for (int i = 0; i < n; i++) {
                passYear();
            }
        }

        void passYear() {
            dig();
            at = (at + 1) % PITS;
            year++;
        }

        private void dig() {
            int strength = laws[DIG];
            for (int i = 0; i < MOST_THINGS; i++) {
                int one = uppermost(at);
                if (one == NO_THING) {
                    return;
                }
                int depth = hiding(one);
                if (depth > strength) {
                    return;
                }
                strength -= depth;
                opinion = held(opinion + speaking(one), MOST_OPINION);
                places[one] = FOUND;
            }
        }

        void passDrawnYear() {
            if (count > 0) {
                int one = draw() % count;
                if (draw() % 100 < laws[SLIP] && lies(one)) {
                    layIn(one, draw() % PITS);
                }
            }
            passYear();
        }

        private int draw() {
            z = z * 1103515245 + 12345;
            return z >>> 16;
        }
    }

    /** The tape, and the reading of the text on it, name by name. */
    private static final class Text {
        private static final int MOST_BYTES = 200;
        private static final int NAME = 0, NUMBER = 1, OTHER = 2, END = 3;
        private static final int READER = LAWS, OPINION = LAWS + 1;

        private final byte[] bytes;
        int size;
        /** What stands there now: its sort, its first byte, and the byte behind its last. */
        private int sort, from, behind;
        /** The first fault; -1 as long as there is none. */
        private int fault;

        Text() {
            bytes = new byte[MOST_BYTES];
            size = 0;
        }

        void clear() {
            size = 0;
        }

        int append(long eight, int n) {
            if (n > MOST_BYTES - size) {
                return FULL;
            }
            for (int i = 0; i < n; i++) {
                bytes[size] = (byte) (eight >>> (8 * i));
                size++;
            }
            return size;
        }

        /** The place of the fault, or -1; the street's draws stay. */
        int readInto(Street street) {
            street.begin();
            behind = 0;
            fault = -1;
            for (int i = 0; i <= MOST_BYTES && fault < 0; i++) {
                next();
                if (sort == END) {
                    return fault;
                }
                readStatement(street);
            }
            return fault;
        }

        private void readStatement(Street street) {
            int kind = kindNamed();
            if (kind >= 0) {
                readThing(street, kind);
                return;
            }
            int setting = settingNamed();
            if (setting < 0) {
                fail();
                return;
            }
            int v = readNumber(mostOfSetting(setting));
            next();
            needEndOfStatement();
            if (fault < 0) {
                apply(street, setting, v);
            }
        }

        private void readThing(Street street, int kind) {
            if (street.count >= MOST_THINGS) {
                fail();
                return;
            }
            next();
            if (!isName("in")) {
                fail();
            }
            int place = readNumber(PITS - 1);
            int worth = 10;
            int truth = 0;
            next();
            if (isName("worth")) {
                worth = readNumber(MOST_WORTH);
                next();
            }
            if (isName("truth")) {
                truth = readNumber(MOST_TRUTH);
                next();
            }
            needEndOfStatement();
            if (fault < 0) {
                street.add(kind, worth, truth, place);
            }
        }

        private static void apply(Street street, int setting, int v) {
            if (setting == READER) {
                street.at = v;
            } else if (setting == OPINION) {
                street.opinion = v;
            } else if (within(setting, LAWS - 1)) {
                street.laws[setting] = v;
            }
        }

        private static int mostOfSetting(int setting) {
            if (setting == READER) {
                return PITS - 1;
            }
            return setting == OPINION ? MOST_OPINION : mostOfLaw(setting);
        }

        private int kindNamed() {
            if (isName("thing")) {
                return THING;
            } else if (isName("vessel")) {
                return VESSEL;
            } else if (isName("rubbish")) {
                return RUBBISH;
            } else if (isName("mosaic")) {
                return MOSAIC;
            } else if (isName("shoe")) {
                return SHOE;
            } else if (isName("sand")) {
                return SAND;
            }
            return -1;
        }

        private int settingNamed() {
            if (isName("reader")) {
                return READER;
            } else if (isName("opinion")) {
                return OPINION;
            } else if (isName("dig")) {
                return DIG;
            } else if (isName("shine")) {
                return SHINE;
            } else if (isName("filth")) {
                return FILTH;
            } else if (isName("slip")) {
                return SLIP;
            }
            return -1;
        }

        /** The next number, if it is one of 1 to 3 digits and no more than most; else 0, and a fault. */
        private int readNumber(int most) {
            next();
            if (sort != NUMBER || behind - from > 3) {
                fail();
                return 0;
            }
            int v = 0;
            for (int i = from; i < behind; i++) {
                v = v * 10 + bytes[i] - '0';
            }
            if (v > most) {
                fail();
                return 0;
            }
            return v;
        }

        private void needEndOfStatement() {
            if (sort != OTHER || bytes[from] != ';') {
                fail();
            }
        }

        /** Only the first fault counts: what is read behind it may be anything. */
        private void fail() {
            if (fault < 0) {
                fault = from;
            }
        }

        private void next() {
            while (behind < size && bytes[behind] == ' ') {
                behind++;
            }
            from = behind;
            if (behind >= size) {
                sort = END;
                return;
            }
            sort = sortOf(bytes[behind]);
            behind++;
            while (sort != OTHER && behind < size && sortOf(bytes[behind]) == sort) {
                behind++;
            }
        }

        private static int sortOf(int b) {
            if (b >= 'a' && b <= 'z') {
                return NAME;
            }
            return b >= '0' && b <= '9' ? NUMBER : OTHER;
        }

        private boolean isName(String name) {
            if (sort != NAME || behind - from != name.length()) {
                return false;
            }
            for (int i = 0; i < name.length(); i++) {
                if (bytes[from + i] != name.charAt(i)) {
                    return false;
                }
            }
            return true;
        }
    }

    /** Rows of numbers, each of a sort or missing. An int holds an item of any sort, a long's too. */
    private static final class Sheets {
        final int[] sorts, sizes;
        private final int[] items;

        Sheets() {
            sorts = new int[SHEETS];
            sizes = new int[SHEETS];
            items = new int[SHEETS * MOST_ITEMS];
            for (int sheet = 0; sheet < SHEETS; sheet++) {
                sorts[sheet] = MISSING;
            }
        }

        void begin(int sheet, int sort, int n) {
            sorts[sheet] = sort;
            sizes[sheet] = n;
            for (int i = 0; i < MOST_ITEMS; i++) {
                items[sheet * MOST_ITEMS + i] = 0;
            }
        }

        boolean holds(int sheet, int i) {
            return sorts[sheet] != MISSING && i >= 0 && i < sizes[sheet];
        }

        int number(int sheet, int i) {
            return items[sheet * MOST_ITEMS + i];
        }

        /** What is put comes as an int, and of longs the lowest 32 bits are asked: no more is held. */
        void write(int sheet, int i, int v) {
            int narrowed = v;
            if (sorts[sheet] == BYTES) {
                narrowed = (byte) v;
            } else if (sorts[sheet] == SHORTS) {
                narrowed = (short) v;
            }
            items[sheet * MOST_ITEMS + i] = narrowed;
        }
    }

    /** A shelf holds a thing's number or the row that a sheet was then, whatever the sheet becomes. */
    private static final class Shelves {
        private static final int NO_NUMBER = -1;

        final int[] things, sorts, sizes;

        Shelves() {
            things = new int[SHELVES];
            sorts = new int[SHELVES];
            sizes = new int[SHELVES];
            for (int shelf = 0; shelf < SHELVES; shelf++) {
                clear(shelf);
            }
        }

        void clear(int shelf) {
            things[shelf] = NO_NUMBER;
            sorts[shelf] = MISSING;
            sizes[shelf] = 0;
        }

        void holdThing(int shelf, int i) {
            clear(shelf);
            things[shelf] = i;
        }

        void holdRow(int shelf, int sort, int size) {
            clear(shelf);
            sorts[shelf] = sort;
            sizes[shelf] = size;
        }

        boolean holdsRow(int shelf) {
            return sorts[shelf] != MISSING;
        }
    }

    /** The acts of one thing held as of its kind, and the trace of the bodies that ran. */
    private static final class Acts {
        static final int ACTS = 4;
        private static final int SINKS = 0, SHOWS = 1, PARTS = 2, ASKS = 3;
        private static final int MOST_TRACE = 30, DEEPEST = 40;
        /** Four to a kind, an act each: the kind's own body, or 0 where it takes what it stands under. */
        private static final int[] OWN_BODIES = {
            10, 11, 12, 13,
            0, 20, 0, 0,
            30, 0, 0, 31,
            51, 0, 50, 0,
            40, 41, 0, 0,
            0, 0, 61, 60,
        };

        final int[] bodies;
        int traceCount;
        private int number, kind, truth;
        /** Nothing runs any more once there was a parting by 0. */
        private boolean isStopped;

        Acts() {
            bodies = new int[MOST_TRACE];
        }

        void clear() {
            traceCount = 0;
            isStopped = false;
        }

        void holdOne(int itsNumber, int itsKind, int itsTruth) {
            number = itsNumber;
            kind = itsKind;
            truth = itsTruth;
        }

        int answer(int act, int x) {
            int answer = own(act, x, 0);
            return isStopped ? PARTED_BY_NONE : answer;
        }

        private int own(int act, int x, int depth) {
            return run(bodyFor(kind, act), x, depth);
        }

        /** The act as the kind that one of this kind stands under has it. */
        private int inherited(int ofKind, int act, int x, int depth) {
            return run(bodyFor(UNDER[ofKind], act), x, depth);
        }

        private static int bodyFor(int ofKind, int act) {
            int k = ofKind;
            for (int step = 0; step < KINDS && within(k, KINDS - 1); step++) {
                int body = OWN_BODIES[k * ACTS + act];
                if (body != 0) {
                    return body;
                }
                k = UNDER[k];
            }
            return 0;
        }

        private int run(int body, int x, int depth) {
            if (isStopped || depth > DEEPEST) {
                return 0;
            }
            note(body);
            int d = depth + 1;
            switch (body) {
                case 10: return x * 2 + number;
                case 11: return own(SINKS, x, d) * 3 - truth;
                case 12: return part(x);
                case 13: return own(SHOWS, x, d) ^ 70;
                case 20: return inherited(VESSEL, SHOWS, x, d) + 8;
                case 30: return 0 - inherited(RUBBISH, SINKS, x, d);
                case 31: return inherited(RUBBISH, ASKS, x, d) - own(PARTS, number, d);
                case 40: return inherited(SHOE, SINKS, x, d) ^ 5;
                case 41: return inherited(SHOE, SHOWS, x, d) - own(SINKS, truth, d);
                case 50: return inherited(MOSAIC, PARTS, x + 9, d) * 2;
                case 51: return inherited(MOSAIC, SINKS, x, d) - number;
                case 60: return inherited(SAND, ASKS, x, d) + truth;
                case 61: return inherited(SAND, PARTS, x, d) ^ own(SINKS, number, d);
                default: return 0;
            }
        }

        private int part(int x) {
            int by = truth - number;
            if (by == 0) {
                isStopped = true;
                return 0;
            }
            return x / by;
        }

        private void note(int body) {
            if (traceCount < MOST_TRACE) {
                bodies[traceCount] = body;
                traceCount++;
            }
        }
    }
}
