import java.util.Arrays;
import java.util.NoSuchElementException;

/**
 * A house with one window, passers by timetables that nobody has, and persons who look out by turns
 * and tell what they will. What each method answers is told in ../shared/DOC.md, promise by promise.
 */
public final class WindowTurns {
    public static final int NONE = -1;

    private static final int TAPE_BYTES = 940;
    private static final int HOUSE_BYTES = 900;
    private static final int TELLINGS_BYTES = 600;
    private static final int RULES_BYTES = 300;

    private static final int HOURS = 30;
    private static final int MOST_KINDS = 3;
    private static final int MOST_PERSONS = 4;
    private static final int MOST_TELLINGS = 40;
    private static final int MOST_WAYS = 2 + 2 * MOST_KINDS;
    private static final int MOST_SETS = 1 << MOST_KINDS;
    private static final int LONGEST_PERIOD = 8;
    // 1 + 2 + .. + 8: as many as a kind from 1 to 8 has.
    private static final int MOST_TIMETABLES = 36;
    private static final int MOST_TRADES = 100;

    private static final int TRUE_WAY = 0;
    private static final int LATE_WAY = 1;

    private static final int NO_TOKEN = 1;
    private static final int WRONG_NUMBER = 2;
    private static final int WRONG_NAME = 3;
    private static final int TOO_MANY = 4;

    private final int[] tape = new int[TAPE_BYTES];
    private int tapeLength = 0;
    private int lastFault = 0;

    private final House home = new House();
    private final House firstImage = new House();
    private final House secondImage = new House();
    private int imagesKept = 0;

    private final Cursor cursor = new Cursor();
    private final HouseReader houseReader = new HouseReader(cursor);
    private final TellingsReader tellingsReader = new TellingsReader(cursor);
    private final RulesReader rulesReader = new RulesReader(cursor);
    private final Worlds outcomes = new Worlds(home);
    private final Table talk = new Table();

    public WindowTurns() {
    }

    // ---- the tape

    public int feed(int a, int b, int c, int d, int e) {
        if (tapeLength + 20 > TAPE_BYTES) {
            return NONE;
        }
        addFour(a);
        addFour(b);
        addFour(c);
        addFour(d);
        addFour(e);
        return tapeLength;
    }

    private void addFour(int number) {
        for (int shift = 24; shift >= 0; shift -= 8) {
            put(tape, tapeLength, (number >>> shift) & 255);
            tapeLength++;
        }
    }

    public boolean end(int n) {
        if (n < 0 || n > tapeLength) {
            return false;
        }
        tapeLength = n;
        return true;
    }

    // ---- the house and the tellings

    public int house() {
        cursor.begin(tape, tapeLength, HOUSE_BYTES);
        int lines = houseReader.readAll();
        if (lines != NONE) {
            home.copyFrom(houseReader.fresh);
        }
        return endText(lines);
    }

    /** The answer of a text that is read; the tape is empty then. */
    private int endText(int lines) {
        tapeLength = 0;
        lastFault = cursor.faultKind;
        return lines == NONE ? -1 - cursor.faultPlace : lines;
    }

    public int fault() {
        return lastFault;
    }

    public int kind(int k, int what) throws NoSuchElementException {
        if (!home.hasKind(k) || what < 0 || what > 3) {
            throw new NoSuchElementException();
        }
        if (what == 0) {
            return at(home.lows, k);
        }
        if (what == 1) {
            return at(home.highs, k);
        }
        return what == 2 ? at(home.truths, k) : home.timetablesOf(k);
    }

    public int passes(int k, int t, int hour) {
        if (!home.hasKind(k) || !home.hasTimetable(k, t) || !isHour(hour)) {
            return NONE;
        }
        return (int) (home.passing(k, hour) >>> t) & 1;
    }

    public int may(int a) {
        return home.hasPerson(a) ? at(home.ways, a) : NONE;
    }

    public int tellings() {
        cursor.begin(tape, tapeLength, TELLINGS_BYTES);
        int lines = tellingsReader.readAll(home);
        if (lines != NONE) {
            home.told.copyFrom(tellingsReader.fresh);
        }
        return endText(lines);
    }

    public int tell(int a, int hour, int kinds) {
        if (!home.hasPerson(a) || !isHour(hour) || !home.hasSet(kinds)) {
            return NONE;
        }
        return home.told.add(a, hour, kinds) ? home.told.size - 1 : NONE;
    }

    public int untell() {
        if (home.told.size <= 0) {
            return NONE;
        }
        home.told.size--;
        return home.told.size;
    }

    public int telling(int i, int what) throws NoSuchElementException {
        if (i < 0 || i >= home.told.size || what < 0 || what > 2) {
            throw new NoSuchElementException();
        }
        if (what == 0) {
            return at(home.told.who, i);
        }
        return what == 1 ? at(home.told.when, i) : at(home.told.what, i);
    }

    // ---- the worlds

    public long worlds() {
        outcomes.gatherAll();
        return outcomes.total();
    }

    public long worldsOf(int k, int t) {
        if (!home.hasKind(k) || !home.hasTimetable(k, t)) {
            return NONE;
        }
        outcomes.gatherAll();
        outcomes.pickAny();
        outcomes.pick(k, 1L << t);
        return outcomes.picked();
    }

    public long waysOf(int a, int way) {
        if (!home.hasPerson(a) || !home.hasWay(way)) {
            return NONE;
        }
        outcomes.gatherAll();
        return outcomes.withWay(a, way);
    }

    public int sure(int k, int hour) {
        if (!home.hasKind(k) || !isHour(hour)) {
            return NONE;
        }
        outcomes.gatherAll();
        return outcomes.isEmpty() ? NONE : surety(k, hour);
    }

    /** 1 surely passing, 0 surely not, 2 neither, by the worlds gathered, of which there are some. */
    private int surety(int k, int hour) {
        long possible = outcomes.possible(k);
        long passing = home.passing(k, hour);
        if ((possible & ~passing) == 0) {
            return 1;
        }
        return (possible & passing) == 0 ? 0 : 2;
    }

    public long odds(int k, int hour, int what) throws NoSuchElementException {
        if (!home.hasKind(k) || !isHour(hour) || what < 0 || what > 1) {
            throw new NoSuchElementException();
        }
        outcomes.gatherAll();
        if (outcomes.isEmpty()) {
            throw new NoSuchElementException();
        }
        outcomes.pickAny();
        outcomes.pick(k, home.passing(k, hour));
        return reduced(outcomes.picked(), outcomes.total(), what);
    }

    public int hours(int k, int what) {
        if (!home.hasKind(k) || what < 0 || what > 2) {
            return NONE;
        }
        outcomes.gatherAll();
        if (outcomes.isEmpty()) {
            return NONE;
        }
        int found = 0;
        for (int hour = 0; hour < HOURS; hour++) {
            if (surety(k, hour) == what) {
                found |= 1 << hour;
            }
        }
        return found;
    }

    public long both(int k, int l, int hour) {
        if (!home.hasKind(k) || !home.hasKind(l) || !isHour(hour)) {
            return NONE;
        }
        outcomes.gatherAll();
        outcomes.pickAny();
        outcomes.pick(k, home.passing(k, hour));
        outcomes.pick(l, home.passing(l, hour));
        return outcomes.picked();
    }

    public long bet(int k, int hour, int what) throws NoSuchElementException {
        if (!home.hasKind(k) || !isHour(hour) || what < 0 || what > 1) {
            throw new NoSuchElementException();
        }
        outcomes.gatherAll();
        if (outcomes.isEmpty()) {
            throw new NoSuchElementException();
        }
        return reduced(outcomes.ahead(k, hour), outcomes.total(), what);
    }

    /** Of above by below in least numbers: the upper (what 0) or the lower. */
    private static long reduced(long above, long below, int what) {
        long divisor = commonDivisor(above, below);
        if (divisor <= 0) {
            return 0;
        }
        return (what == 0 ? above : below) / divisor;
    }

    private static long commonDivisor(long above, long below) {
        long greater = below;
        long rest = above;
        // Euclid's steps on longs are fewer than a hundred.
        for (int i = 0; i < 100 && rest > 0; i++) {
            long next = greater % rest;
            greater = rest;
            rest = next;
        }
        return greater;
    }

    // ---- who lies, whom to believe

    public int lying(int what) {
        if (what < 0 || what > 1) {
            return NONE;
        }
        outcomes.gatherAll();
        if (outcomes.isEmpty()) {
            return NONE;
        }
        int found = 0;
        for (int a = 0; a < home.persons; a++) {
            int ways = outcomes.possibleWays(a);
            boolean belongs = what == 0 ? (ways & 1) == 0 : ways == 1;
            if (belongs) {
                found |= 1 << a;
            }
        }
        return found;
    }

    public int liars() {
        outcomes.gatherAll();
        return outcomes.isEmpty() ? NONE : fewest(outcomes.liarSets());
    }

    /** Of sets of persons, given as bits of a number each: how many the smallest have. */
    private static int fewest(int sets) {
        int least = MOST_PERSONS;
        for (int set = 0; set < 1 << MOST_PERSONS; set++) {
            if ((sets >>> set & 1) == 1) {
                least = Math.min(least, Integer.bitCount(set));
            }
        }
        return least;
    }

    public int liarSet(int k) {
        if (k < NONE) {
            return NONE;
        }
        outcomes.gatherAll();
        if (outcomes.isEmpty()) {
            return NONE;
        }
        int sets = outcomes.liarSets();
        int least = fewest(sets);
        int found = 0;
        for (int set = 0; set < 1 << MOST_PERSONS; set++) {
            if ((sets >>> set & 1) == 1 && Integer.bitCount(set) == least) {
                if (found == k) {
                    return set;
                }
                found++;
            }
        }
        return k == NONE ? found : NONE;
    }

    public int clash() {
        int fitting = 0;
        int clashing = home.told.size;
        if (fits(clashing)) {
            return NONE;
        }
        // What clashes goes on to clash with more tellings: halve the gap.
        for (int i = 0; i < MOST_TELLINGS && clashing - fitting > 1; i++) {
            int middle = (fitting + clashing) / 2;
            if (fits(middle)) {
                fitting = middle;
            } else {
                clashing = middle;
            }
        }
        return clashing - 1;
    }

    private boolean fits(int tellings) {
        outcomes.gather(tellings);
        return !outcomes.isEmpty();
    }

    public long wouldTell(int a, int hour, int kinds) {
        if (!home.hasPerson(a) || !isHour(hour) || !home.hasSet(kinds)) {
            return NONE;
        }
        outcomes.gatherAll();
        outcomes.spread(a, hour);
        return longAt(outcomes.sums, kinds);
    }

    public long left(int a, int hour) {
        if (!home.hasPerson(a) || !isHour(hour)) {
            return NONE;
        }
        outcomes.gatherAll();
        outcomes.spread(a, hour);
        return outcomes.greatest();
    }

    public int next() {
        outcomes.gatherAll();
        if (home.persons == 0 || outcomes.isEmpty()) {
            return NONE;
        }
        int best = NONE;
        long least = 0;
        for (int a = 0; a < home.persons; a++) {
            for (int hour = 0; hour < HOURS; hour++) {
                outcomes.spread(a, hour);
                long now = outcomes.greatest();
                if (best == NONE || now < least) {
                    best = 100 * a + hour;
                    least = now;
                }
            }
        }
        return best;
    }

    // ---- the table

    public int table(int k) {
        int speakers = tapeLength;
        tapeLength = 0;
        if (!home.hasKind(k) || at(home.truths, k) == NONE || !areSpeakers(speakers)) {
            return NONE;
        }
        talk.hold(home, k, tape, speakers);
        return talk.size;
    }

    private boolean areSpeakers(int speakers) {
        if (speakers < 1 || speakers > MOST_PERSONS) {
            return false;
        }
        int seen = 0;
        for (int i = 0; i < speakers; i++) {
            int a = at(tape, i);
            if (!home.hasPerson(a) || (seen >>> a & 1) == 1) {
                return false;
            }
            seen |= 1 << a;
        }
        return true;
    }

    public int said(int i) {
        return i >= 0 && i < talk.size ? at(talk.sayings, i) : NONE;
    }

    public int ended(int what) {
        if (what == 0) {
            return talk.remaining;
        }
        return what == 1 ? talk.knowers : NONE;
    }

    // ---- turns

    public int rules() {
        cursor.begin(tape, tapeLength, RULES_BYTES);
        int lines = rulesReader.readAll(home);
        if (lines != NONE) {
            copyRow(rulesReader.fresh, home.turns);
        }
        return endText(lines);
    }

    public int turn(int hour) {
        return isHour(hour) ? at(home.turns, hour) : NONE;
    }

    public int content(int a) {
        return home.hasPerson(a) ? home.contentOf(a) : NONE;
    }

    public int trade() {
        int done = 0;
        for (int i = 0; i < MOST_TRADES && home.tradeOnce(); i++) {
            done++;
        }
        return done;
    }

    // ---- draws, images, counts

    public boolean drawn(int n, int seed) {
        int given = tapeLength;
        tapeLength = 0;
        if (n < 1 || n > MOST_TELLINGS || home.persons == 0 || given != home.persons) {
            return false;
        }
        if (!home.hasAllTruths() || !areWays(given)) {
            return false;
        }
        drawTellings(n, seed);
        return true;
    }

    private boolean areWays(int given) {
        for (int a = 0; a < given; a++) {
            if (!home.hasWay(at(tape, a))) {
                return false;
            }
        }
        return true;
    }

    private void drawTellings(int n, int seed) {
        home.told.size = 0;
        int x = seed;
        for (int i = 0; i < n; i++) {
            x = drawNext(x);
            int a = drawOf(x, home.persons);
            x = drawNext(x);
            int hour = drawOf(x, HOURS);
            home.told.add(a, hour, home.trulyTold(at(tape, a), hour));
        }
    }

    private static int drawNext(int x) {
        return x * 1103515245 + 12345;
    }

    private static int drawOf(int x, int n) {
        return n > 0 ? (x >>> 8) % n : 0;
    }

    public boolean image(int k) {
        House place = imagePlace(k);
        if (place == null) {
            return false;
        }
        place.copyFrom(home);
        imagesKept |= 1 << k;
        return true;
    }

    public boolean restore(int k) {
        House place = imagePlace(k);
        if (place == null || (imagesKept >>> k & 1) == 0) {
            return false;
        }
        home.copyFrom(place);
        return true;
    }

    private House imagePlace(int k) {
        if (k == 0) {
            return firstImage;
        }
        return k == 1 ? secondImage : null;
    }

    public int count(int what) {
        switch (what) {
            case 0:
                return home.kinds;
            case 1:
                return home.persons;
            case 2:
                return home.told.size;
            case 3:
                return home.hoursWithTurns();
            case 4:
                return tapeLength;
            default:
                return NONE;
        }
    }

    // ---- rows whose index is looked at

    private static boolean isHour(int hour) {
        return hour >= 0 && hour < HOURS;
    }

    private static int at(int[] row, int i) {
        return row != null && i >= 0 && i < row.length ? row[i] : 0;
    }

    private static long longAt(long[] row, int i) {
        return row != null && i >= 0 && i < row.length ? row[i] : 0L;
    }

    private static void put(int[] row, int i, int value) {
        if (row != null && i >= 0 && i < row.length) {
            row[i] = value;
        }
    }

    private static void putLong(long[] row, int i, long value) {
        if (row != null && i >= 0 && i < row.length) {
            row[i] = value;
        }
    }

    private static void copyRow(int[] source, int[] goal) {
        if (source == null || goal == null) {
            return;
        }
        for (int i = 0; i < source.length && i < goal.length; i++) {
            goal[i] = source[i];
        }
    }

    private static void copyLongs(long[] source, long[] goal) {
        if (source == null || goal == null) {
            return;
        }
        for (int i = 0; i < source.length && i < goal.length; i++) {
            goal[i] = source[i];
        }
    }

    /** What one who has a way tells, if just these kinds pass (for late: in the hour ahead). */
    private static int toldBy(int way, int passing) {
        if (way <= LATE_WAY) {
            return passing;
        }
        int bit = 1 << (way - 2) / 2;
        return (way & 1) == 0 ? passing & ~bit : passing | bit;
    }

    /** What was told: by whom, of which hour, which kinds (as bits). */
    private static final class Tellings {
        int size = 0;
        final int[] who = new int[MOST_TELLINGS];
        final int[] when = new int[MOST_TELLINGS];
        final int[] what = new int[MOST_TELLINGS];

        boolean add(int a, int hour, int kinds) {
            if (size >= MOST_TELLINGS) {
                return false;
            }
            put(who, size, a);
            put(when, size, hour);
            put(what, size, kinds);
            size++;
            return true;
        }

        void copyFrom(Tellings other) {
            size = other.size;
            copyRow(other.who, who);
            copyRow(other.when, when);
            copyRow(other.what, what);
        }
    }

    /** Kinds, persons, what they looked at and want, turns as they are, and the tellings. */
    private static final class House {
        int kinds = 0;
        int persons = 0;
        final long[] kindNames = new long[MOST_KINDS];
        final int[] lows = new int[MOST_KINDS];
        final int[] highs = new int[MOST_KINDS];
        final int[] truths = new int[MOST_KINDS];
        final long[] personNames = new long[MOST_PERSONS];
        final int[] ways = new int[MOST_PERSONS];
        final int[] looked = new int[MOST_PERSONS];
        final int[] wants = new int[MOST_PERSONS * HOURS];
        final int[] turns = new int[HOURS];
        final Tellings told = new Tellings();

        House() {
            Arrays.fill(turns, NONE);
        }

        void clear() {
            kinds = 0;
            persons = 0;
            Arrays.fill(looked, 0);
            Arrays.fill(wants, 0);
            Arrays.fill(turns, NONE);
            told.size = 0;
        }

        void copyFrom(House other) {
            kinds = other.kinds;
            persons = other.persons;
            copyLongs(other.kindNames, kindNames);
            copyRow(other.lows, lows);
            copyRow(other.highs, highs);
            copyRow(other.truths, truths);
            copyLongs(other.personNames, personNames);
            copyRow(other.ways, ways);
            copyRow(other.looked, looked);
            copyRow(other.wants, wants);
            copyRow(other.turns, turns);
            told.copyFrom(other.told);
        }

        boolean hasKind(int k) {
            return k >= 0 && k < kinds;
        }

        boolean hasPerson(int a) {
            return a >= 0 && a < persons;
        }

        boolean hasTimetable(int k, int t) {
            return t >= 0 && t < timetablesOf(k);
        }

        boolean hasWay(int way) {
            return way >= 0 && way < 2 + 2 * kinds;
        }

        boolean hasSet(int set) {
            return set >= 0 && set < 1 << kinds;
        }

        boolean hasAllTruths() {
            for (int k = 0; k < kinds; k++) {
                if (at(truths, k) == NONE) {
                    return false;
                }
            }
            return true;
        }

        int kindOf(long name) {
            for (int k = 0; k < kinds; k++) {
                if (longAt(kindNames, k) == name) {
                    return k;
                }
            }
            return NONE;
        }

        int personOf(long name) {
            for (int a = 0; a < persons; a++) {
                if (longAt(personNames, a) == name) {
                    return a;
                }
            }
            return NONE;
        }

        int timetablesOf(int k) {
            return firstOf(at(lows, k), at(highs, k) + 1);
        }

        /** The number of the first timetable of a period, of a kind from low on. */
        static int firstOf(int low, int period) {
            int number = 0;
            for (int p = 1; p <= LONGEST_PERIOD; p++) {
                if (p >= low && p < period) {
                    number += p;
                }
            }
            return number;
        }

        /** The timetables of a kind that pass in an hour, as bits: one of each period. */
        long passing(int k, int hour) {
            long found = 0;
            if (hour < 0) {
                return found;
            }
            int low = at(lows, k);
            int high = at(highs, k);
            int first = 0;
            for (int p = 1; p <= LONGEST_PERIOD; p++) {
                if (p >= low && p <= high) {
                    found |= 1L << (first + hour % p);
                    first += p;
                }
            }
            return found;
        }

        int trulyTold(int way, int hour) {
            int truly = 0;
            for (int k = 0; k < kinds; k++) {
                long passing = passing(k, way == LATE_WAY ? hour - 1 : hour);
                if ((passing >>> at(truths, k) & 1) == 1) {
                    truly |= 1 << k;
                }
            }
            return toldBy(way, truly);
        }

        int hoursWithTurns() {
            int found = 0;
            for (int hour = 0; hour < HOURS; hour++) {
                if (at(turns, hour) != NONE) {
                    found++;
                }
            }
            return found;
        }

        int wantOf(int a, int hour) {
            return at(wants, a * HOURS + hour);
        }

        int contentOf(int a) {
            int sum = 0;
            for (int hour = 0; hour < HOURS; hour++) {
                if (at(turns, hour) == a) {
                    sum += wantOf(a, hour);
                }
            }
            return sum;
        }

        boolean tradeOnce() {
            for (int first = 0; first < HOURS; first++) {
                for (int second = first + 1; second < HOURS; second++) {
                    int a = at(turns, first);
                    int b = at(turns, second);
                    if (a != NONE && b != NONE && a != b && isGain(a, first, b, second)) {
                        put(turns, first, b);
                        put(turns, second, a);
                        return true;
                    }
                }
            }
            return false;
        }

        private boolean isGain(int a, int first, int b, int second) {
            int gainOfA = wantOf(a, second) - wantOf(a, first);
            int gainOfB = wantOf(b, first) - wantOf(b, second);
            return gainOfA >= 0 && gainOfB >= 0 && gainOfA + gainOfB > 0;
        }
    }

    /** A text cut into tokens, with one more behind them where it ends or is too long. */
    private static final class Tokens {
        static final int END = 0;
        static final int BAD = 1;
        static final int SEMICOLON = 2;
        static final int NUMBER = 3;
        static final int NAME = 4;
        static final int KIND = 5;
        static final int BY = 6;
        static final int PERSON = 7;
        static final int TRUE = 8;
        static final int LATE = 9;
        static final int HIDES = 10;
        static final int ADDS = 11;
        static final int LOOKS = 12;
        static final int TURN = 13;
        static final int WANTS = 14;

        // A word is kept as its letters, one byte each: these are the words that are no names.
        static final long WORD_KIND = 0x6b696e64L;
        static final long WORD_BY = 0x6279L;
        static final long WORD_PERSON = 0x706572736f6eL;
        static final long WORD_TRUE = 0x74727565L;
        static final long WORD_LATE = 0x6c617465L;
        static final long WORD_HIDES = 0x6869646573L;
        static final long WORD_ADDS = 0x61646473L;
        static final long WORD_LOOKS = 0x6c6f6f6b73L;
        static final long WORD_TURN = 0x7475726eL;
        static final long WORD_WANTS = 0x77616e7473L;

        int size = 0;
        final int[] sorts = new int[TAPE_BYTES + 1];
        final int[] places = new int[TAPE_BYTES + 1];
        final long[] values = new long[TAPE_BYTES + 1];

        void scan(int[] text, int length, int most) {
            size = 0;
            int limit = Math.min(length, most);
            int from = 0;
            for (int i = 0; i < TAPE_BYTES && from < limit; i++) {
                int sign = at(text, from);
                if (sign == ';') {
                    addToken(SEMICOLON, from, 0);
                } else if (sign != ' ' && sign != '\n') {
                    int till = runEnd(text, from, length);
                    addRun(text, from, till);
                    from = Math.max(from, till - 1);
                }
                from++;
            }
            addToken(length > most ? BAD : END, limit, 0);
        }

        private void addToken(int sort, int place, long value) {
            put(sorts, size, sort);
            put(places, size, place);
            putLong(values, size, value);
            size++;
        }

        private static boolean isLetter(int sign) {
            return sign >= 'a' && sign <= 'z';
        }

        private static boolean isDigit(int sign) {
            return sign >= '0' && sign <= '9';
        }

        /** Where letters and digits end, from a place on. */
        private static int runEnd(int[] text, int from, int length) {
            int till = from;
            for (int i = from; i < length; i++) {
                if (!isLetter(at(text, i)) && !isDigit(at(text, i))) {
                    return till;
                }
                till++;
            }
            return till;
        }

        private void addRun(int[] text, int from, int till) {
            int letters = 0;
            int digits = 0;
            long word = 0;
            long number = 0;
            for (int i = from; i < till; i++) {
                int sign = at(text, i);
                word = word << 8 | sign;
                if (isDigit(sign)) {
                    digits++;
                    number = number * 10 + sign - '0';
                } else {
                    letters++;
                }
            }
            if (digits == 0 && letters >= 1 && letters <= 6) {
                addToken(sortOf(word), from, word);
            } else if (letters == 0 && digits >= 1 && digits <= 2) {
                addToken(NUMBER, from, number);
            } else {
                addToken(BAD, from, 0);
            }
        }

        private static int sortOf(long word) {
            if (word == WORD_KIND) {
                return KIND;
            }
            if (word == WORD_BY) {
                return BY;
            }
            if (word == WORD_PERSON) {
                return PERSON;
            }
            if (word == WORD_TRUE) {
                return TRUE;
            }
            if (word == WORD_LATE) {
                return LATE;
            }
            if (word == WORD_HIDES) {
                return HIDES;
            }
            if (word == WORD_ADDS) {
                return ADDS;
            }
            if (word == WORD_LOOKS) {
                return LOOKS;
            }
            if (word == WORD_TURN) {
                return TURN;
            }
            return word == WORD_WANTS ? WANTS : NAME;
        }
    }

    /** Goes along the tokens of a text; what is read answers NONE or false where there is a fault. */
    private static final class Cursor {
        final Tokens tokens = new Tokens();
        int index = 0;
        int faultKind = 0;
        int faultPlace = 0;

        void begin(int[] text, int length, int most) {
            tokens.scan(text, length, most);
            index = 0;
            faultKind = 0;
            faultPlace = 0;
        }

        int sort() {
            return at(tokens.sorts, index);
        }

        long value() {
            return longAt(tokens.values, index);
        }

        /** A fault at the token that is now read. */
        int refuse(int kind) {
            faultKind = kind;
            faultPlace = at(tokens.places, index);
            return NONE;
        }

        boolean readSemicolon() {
            if (sort() != Tokens.SEMICOLON) {
                refuse(NO_TOKEN);
                return false;
            }
            index++;
            return true;
        }

        int readNumber(int low, int high) {
            if (sort() != Tokens.NUMBER) {
                return refuse(NO_TOKEN);
            }
            int number = (int) value();
            if (number < low || number > high) {
                return refuse(WRONG_NUMBER);
            }
            index++;
            return number;
        }

        int peekPerson(House house) {
            if (sort() != Tokens.NAME) {
                return refuse(NO_TOKEN);
            }
            int a = house.personOf(value());
            return a == NONE ? refuse(WRONG_NAME) : a;
        }

        int readPerson(House house) {
            int a = peekPerson(house);
            if (a != NONE) {
                index++;
            }
            return a;
        }

        /** A kind's number; its token is not gone over yet, as it may be one told again. */
        int peekKind(House house) {
            if (sort() != Tokens.NAME) {
                return refuse(NO_TOKEN);
            }
            int k = house.kindOf(value());
            return k == NONE ? refuse(WRONG_NAME) : k;
        }

        boolean peekNewName(House house) {
            if (sort() != Tokens.NAME) {
                refuse(NO_TOKEN);
                return false;
            }
            if (house.kindOf(value()) != NONE || house.personOf(value()) != NONE) {
                refuse(WRONG_NAME);
                return false;
            }
            return true;
        }
    }

    /** Reads a house's text into a fresh house. */
    private static final class HouseReader {
        final Cursor cursor;
        final House fresh = new House();
        // The hours of which each person's want was told, as bits.
        private final int[] wanted = new int[MOST_PERSONS];

        HouseReader(Cursor cursor) {
            this.cursor = cursor;
        }

        /** How many lines, or NONE with a fault. */
        int readAll() {
            fresh.clear();
            Arrays.fill(wanted, 0);
            int lines = 0;
            for (int i = 0; i < TAPE_BYTES && cursor.sort() != Tokens.END; i++) {
                boolean isRead = false;
                switch (cursor.sort()) {
                    case Tokens.KIND:
                        isRead = readKindLine();
                        break;
                    case Tokens.PERSON:
                        isRead = readPersonLine();
                        break;
                    case Tokens.LOOKS:
                        isRead = readLooksLine();
                        break;
                    case Tokens.TURN:
                        isRead = readTurnLine();
                        break;
                    case Tokens.WANTS:
                        isRead = readWantsLine();
                        break;
                    default:
                        cursor.refuse(NO_TOKEN);
                        break;
                }
                if (!isRead || !cursor.readSemicolon()) {
                    return NONE;
                }
                lines++;
            }
            return lines;
        }

        private boolean readKindLine() {
            if (fresh.persons > 0) {
                cursor.refuse(WRONG_NAME);
                return false;
            }
            if (fresh.kinds >= MOST_KINDS) {
                cursor.refuse(TOO_MANY);
                return false;
            }
            cursor.index++;
            if (!cursor.peekNewName(fresh)) {
                return false;
            }
            long name = cursor.value();
            cursor.index++;
            int low = cursor.readNumber(1, LONGEST_PERIOD);
            int high = low == NONE ? NONE : cursor.readNumber(low, LONGEST_PERIOD);
            if (high == NONE) {
                return false;
            }
            int k = fresh.kinds;
            putLong(fresh.kindNames, k, name);
            put(fresh.lows, k, low);
            put(fresh.highs, k, high);
            put(fresh.truths, k, NONE);
            fresh.kinds++;
            return cursor.sort() != Tokens.BY || readTruth(k, low, high);
        }

        private boolean readTruth(int k, int low, int high) {
            cursor.index++;
            int period = cursor.readNumber(low, high);
            int phase = period == NONE ? NONE : cursor.readNumber(0, period - 1);
            if (phase == NONE) {
                return false;
            }
            put(fresh.truths, k, House.firstOf(low, period) + phase);
            return true;
        }

        private boolean readPersonLine() {
            if (fresh.persons >= MOST_PERSONS) {
                cursor.refuse(TOO_MANY);
                return false;
            }
            cursor.index++;
            if (!cursor.peekNewName(fresh)) {
                return false;
            }
            long name = cursor.value();
            cursor.index++;
            int ways = 0;
            for (int i = 0; i <= MOST_WAYS && cursor.sort() != Tokens.SEMICOLON; i++) {
                int way = readWay(ways);
                if (way == NONE) {
                    return false;
                }
                ways |= 1 << way;
            }
            int a = fresh.persons;
            putLong(fresh.personNames, a, name);
            put(fresh.ways, a, ways == 0 ? (1 << 2 + 2 * fresh.kinds) - 1 : ways);
            fresh.persons++;
            return true;
        }

        /** A way that is not among those known (as bits). */
        private int readWay(int known) {
            int sort = cursor.sort();
            int way = sort == Tokens.LATE ? LATE_WAY : TRUE_WAY;
            if (sort == Tokens.HIDES || sort == Tokens.ADDS) {
                cursor.index++;
                int k = cursor.peekKind(fresh);
                if (k == NONE) {
                    return NONE;
                }
                way = 2 + 2 * k + (sort == Tokens.ADDS ? 1 : 0);
            } else if (sort != Tokens.TRUE && sort != Tokens.LATE) {
                return cursor.refuse(NO_TOKEN);
            }
            if ((known >>> way & 1) == 1) {
                return cursor.refuse(WRONG_NAME);
            }
            cursor.index++;
            return way;
        }

        private boolean readLooksLine() {
            cursor.index++;
            int a = cursor.readPerson(fresh);
            return a != NONE && readNewHour(fresh.looked, a) != NONE;
        }

        /** An hour that is not among a person's hours (as bits) yet; then it is. */
        private int readNewHour(int[] hours, int a) {
            int hour = cursor.readNumber(0, HOURS - 1);
            if (hour == NONE) {
                return NONE;
            }
            int known = at(hours, a);
            if ((known >>> hour & 1) == 1) {
                cursor.index--;
                return cursor.refuse(WRONG_NAME);
            }
            put(hours, a, known | 1 << hour);
            return hour;
        }

        private boolean readTurnLine() {
            cursor.index++;
            int hour = cursor.readNumber(0, HOURS - 1);
            if (hour == NONE) {
                return false;
            }
            if (at(fresh.turns, hour) != NONE) {
                cursor.index--;
                cursor.refuse(WRONG_NAME);
                return false;
            }
            int a = cursor.readPerson(fresh);
            put(fresh.turns, hour, a);
            return a != NONE;
        }

        private boolean readWantsLine() {
            cursor.index++;
            int a = cursor.readPerson(fresh);
            int hour = a == NONE ? NONE : readNewHour(wanted, a);
            int want = hour == NONE ? NONE : cursor.readNumber(0, 99);
            if (want == NONE) {
                return false;
            }
            put(fresh.wants, a * HOURS + hour, want);
            return true;
        }
    }

    /** Reads a text of tellings into fresh ones. */
    private static final class TellingsReader {
        final Cursor cursor;
        final Tellings fresh = new Tellings();

        TellingsReader(Cursor cursor) {
            this.cursor = cursor;
        }

        /** How many lines, or NONE with a fault. */
        int readAll(House house) {
            fresh.size = 0;
            for (int i = 0; i < TAPE_BYTES && cursor.sort() != Tokens.END; i++) {
                if (!readLine(house)) {
                    return NONE;
                }
            }
            return fresh.size;
        }

        private boolean readLine(House house) {
            int a = cursor.peekPerson(house);
            if (a == NONE) {
                return false;
            }
            if (fresh.size >= MOST_TELLINGS) {
                cursor.refuse(TOO_MANY);
                return false;
            }
            cursor.index++;
            int hour = cursor.readNumber(0, HOURS - 1);
            int kinds = hour == NONE ? NONE : readKinds(house);
            return kinds != NONE && cursor.readSemicolon() && fresh.add(a, hour, kinds);
        }

        private int readKinds(House house) {
            int kinds = 0;
            for (int i = 0; i <= MOST_KINDS && cursor.sort() != Tokens.SEMICOLON; i++) {
                int k = cursor.peekKind(house);
                if (k == NONE) {
                    return NONE;
                }
                if ((kinds >>> k & 1) == 1) {
                    return cursor.refuse(WRONG_NAME);
                }
                kinds |= 1 << k;
                cursor.index++;
            }
            return kinds;
        }
    }

    /** Reads a text of rules into fresh turns. */
    private static final class RulesReader {
        final Cursor cursor;
        final int[] fresh = new int[HOURS];

        RulesReader(Cursor cursor) {
            this.cursor = cursor;
        }

        /** How many lines, or NONE with a fault. */
        int readAll(House house) {
            Arrays.fill(fresh, NONE);
            int lines = 0;
            for (int i = 0; i < TAPE_BYTES && cursor.sort() != Tokens.END; i++) {
                if (!readLine(house)) {
                    return NONE;
                }
                lines++;
            }
            return lines;
        }

        private boolean readLine(House house) {
            int a = cursor.readPerson(house);
            int from = a == NONE ? NONE : cursor.readNumber(0, HOURS - 1);
            int till = from == NONE ? NONE : cursor.readNumber(from, HOURS - 1);
            int every = till == NONE ? NONE : cursor.readNumber(1, HOURS);
            if (every == NONE || !cursor.readSemicolon()) {
                return false;
            }
            int hour = from;
            for (int i = 0; i < HOURS && hour <= till; i++) {
                if (at(fresh, hour) == NONE) {
                    put(fresh, hour, a);
                }
                hour += every;
            }
            return true;
        }
    }

    /**
     * All worlds that fit the tellings, as branches: of each kind a set of timetables, of each person
     * a set of ways; a branch is all worlds that take one of each set, and no world is in two.
     *
     * A kind in what a person tells is by his way either as it is, late, never or always told, so that
     * given all ways the timetables of one kind do not bear on those of another.
     */
    private static final class Worlds {
        private static final int AS_IT_IS = 0;
        private static final int LATE = 1;
        private static final int NEVER = 2;
        private static final int ALWAYS = 3;
        private static final int MODES = 4;
        // One who told something has at most five choices that fit: true, late, and by each kind one,
        // as no telling has a kind both told and not; one who told nothing has one. 1 + 5 + .. + 625.
        private static final int ROOM = 781;

        final House house;
        private final long[] fitting = new long[MOST_PERSONS * MODES * MOST_KINDS];
        private int choices = 0;
        private final int[] choiceWays = new int[MOST_WAYS];
        private final long[] choiceTimes = new long[MOST_WAYS * MOST_KINDS];
        // The branches are those from first to behind; ahead of them are those of fewer persons.
        private int first = 0;
        private int behind = 0;
        private final int[] branchWays = new int[ROOM];
        private final long[] branchTimes = new long[ROOM * MOST_KINDS];
        private final long[] picks = new long[MOST_KINDS];
        private final long[] passingNow = new long[MOST_KINDS];
        private final long[] passingAhead = new long[MOST_KINDS];
        private final long[] parts = new long[MOST_SETS];
        final long[] sums = new long[MOST_SETS];

        Worlds(House house) {
            this.house = house;
        }

        void gatherAll() {
            gather(house.told.size);
        }

        /** The branches that fit the first so many tellings. */
        void gather(int tellings) {
            Arrays.fill(fitting, -1L);
            for (int i = 0; i < tellings && i < MOST_TELLINGS; i++) {
                heed(i);
            }
            startBranches();
            for (int a = 0; a < house.persons; a++) {
                findChoices(a);
                branchOut(a);
            }
        }

        private static int fittingIndex(int a, int mode, int k) {
            return (a * MODES + mode) * MOST_KINDS + k;
        }

        private void heed(int i) {
            int a = at(house.told.who, i);
            int hour = at(house.told.when, i);
            int kinds = at(house.told.what, i);
            for (int k = 0; k < house.kinds; k++) {
                boolean isTold = (kinds >>> k & 1) == 1;
                long now = house.passing(k, hour);
                long ahead = house.passing(k, hour - 1);
                narrow(fittingIndex(a, AS_IT_IS, k), isTold ? now : ~now);
                narrow(fittingIndex(a, LATE, k), isTold ? ahead : ~ahead);
                narrow(fittingIndex(a, isTold ? NEVER : ALWAYS, k), 0L);
            }
        }

        private void narrow(int index, long timetables) {
            putLong(fitting, index, longAt(fitting, index) & timetables);
        }

        /** One branch without persons; a kind that is not there has one timetable, so as to count once. */
        private void startBranches() {
            first = 0;
            behind = 1;
            put(branchWays, 0, 0);
            for (int k = 0; k < MOST_KINDS; k++) {
                boolean isThere = k < house.kinds;
                putLong(branchTimes, k, isThere ? (1L << house.timetablesOf(k)) - 1 : 1L);
            }
        }

        /** The ways that a person may have, those together that leave the same timetables. */
        private void findChoices(int a) {
            choices = 0;
            for (int way = 0; way < MOST_WAYS; way++) {
                if ((at(house.ways, a) >>> way & 1) == 1) {
                    int choice = findChoice(a, way);
                    put(choiceWays, choice, at(choiceWays, choice) | 1 << way);
                }
            }
        }

        /** The choice that leaves the timetables of a way: one found, or a new one behind them. */
        private int findChoice(int a, int way) {
            for (int k = 0; k < MOST_KINDS; k++) {
                putLong(choiceTimes, choices * MOST_KINDS + k, fittingBy(a, way, k));
            }
            for (int choice = 0; choice < choices; choice++) {
                if (isLikeNew(choice)) {
                    return choice;
                }
            }
            put(choiceWays, choices, 0);
            choices++;
            return choices - 1;
        }

        private boolean isLikeNew(int choice) {
            for (int k = 0; k < MOST_KINDS; k++) {
                int index = choice * MOST_KINDS + k;
                if (longAt(choiceTimes, index) != longAt(choiceTimes, choices * MOST_KINDS + k)) {
                    return false;
                }
            }
            return true;
        }

        private long fittingBy(int a, int way, int k) {
            return longAt(fitting, fittingIndex(a, modeOf(way, k), k));
        }

        private static int modeOf(int way, int k) {
            if (way == LATE_WAY) {
                return LATE;
            }
            if (way == 2 + 2 * k) {
                return NEVER;
            }
            return way == 3 + 2 * k ? ALWAYS : AS_IT_IS;
        }

        private void branchOut(int a) {
            int last = behind;
            for (int i = first; i < last; i++) {
                for (int choice = 0; choice < choices; choice++) {
                    addBranch(i, choice, a);
                }
            }
            first = last;
        }

        private void addBranch(int i, int choice, int a) {
            if (behind >= ROOM) {
                return;
            }
            for (int k = 0; k < MOST_KINDS; k++) {
                long times = branchTime(i, k) & longAt(choiceTimes, choice * MOST_KINDS + k);
                if (times == 0) {
                    return;
                }
                putLong(branchTimes, behind * MOST_KINDS + k, times);
            }
            put(branchWays, behind, at(branchWays, i) | at(choiceWays, choice) << 8 * a);
            behind++;
        }

        private long branchTime(int i, int k) {
            return longAt(branchTimes, i * MOST_KINDS + k);
        }

        private int waysIn(int i, int a) {
            return at(branchWays, i) >>> 8 * a & 255;
        }

        boolean isEmpty() {
            return first >= behind;
        }

        /** In how many ways the persons but one (NONE: all of them) can tell in a branch. */
        private long waysBut(int i, int but) {
            long product = 1;
            for (int a = 0; a < house.persons; a++) {
                if (a != but) {
                    product *= Integer.bitCount(waysIn(i, a));
                }
            }
            return product;
        }

        private long timesPicked(int i) {
            long product = 1;
            for (int k = 0; k < MOST_KINDS; k++) {
                product *= Long.bitCount(branchTime(i, k) & longAt(picks, k));
            }
            return product;
        }

        void pickAny() {
            Arrays.fill(picks, -1L);
        }

        void pick(int k, long timetables) {
            putLong(picks, k, timetables);
        }

        /** How many worlds have, of each kind, one of the timetables picked. */
        long picked() {
            long sum = 0;
            for (int i = first; i < behind; i++) {
                sum += waysBut(i, NONE) * timesPicked(i);
            }
            return sum;
        }

        long total() {
            pickAny();
            return picked();
        }

        long withWay(int a, int way) {
            pickAny();
            long sum = 0;
            for (int i = first; i < behind; i++) {
                if ((waysIn(i, a) >>> way & 1) == 1) {
                    sum += waysBut(i, a) * timesPicked(i);
                }
            }
            return sum;
        }

        /** The timetables that a kind has in some world, as bits. */
        long possible(int k) {
            long found = 0;
            for (int i = first; i < behind; i++) {
                found |= branchTime(i, k);
            }
            return found;
        }

        /** The ways that a person has in some world, as bits. */
        int possibleWays(int a) {
            int found = 0;
            for (int i = first; i < behind; i++) {
                found |= waysIn(i, a);
            }
            return found;
        }

        /** In how many worlds a kind comes next from an hour on, ahead of all others. */
        long ahead(int kind, int from) {
            long sum = 0;
            // Here: those that have passed from the hour on.
            Arrays.fill(passingNow, 0L);
            for (int hour = from; hour < HOURS; hour++) {
                for (int k = 0; k < MOST_KINDS; k++) {
                    long passed = longAt(passingNow, k);
                    long now = k < house.kinds ? house.passing(k, hour) : 0L;
                    pick(k, k == kind ? now & ~passed : ~(now | passed));
                    putLong(passingNow, k, now | passed);
                }
                if (longAt(picks, kind) != 0) {
                    sum += picked();
                }
            }
            return sum;
        }

        /** Sets of persons (each set a bit) of whom each lies in a world, the fewest of its branch. */
        int liarSets() {
            int found = 0;
            for (int i = first; i < behind; i++) {
                int set = 0;
                for (int a = 0; a < house.persons; a++) {
                    if ((waysIn(i, a) & 1) == 0) {
                        set |= 1 << a;
                    }
                }
                found |= 1 << set;
            }
            return found;
        }

        /** To sums: in how many worlds a person would tell each set of kinds of an hour. */
        void spread(int a, int hour) {
            Arrays.fill(sums, 0L);
            for (int k = 0; k < house.kinds; k++) {
                putLong(passingNow, k, house.passing(k, hour));
                putLong(passingAhead, k, house.passing(k, hour - 1));
            }
            for (int i = first; i < behind; i++) {
                int late = waysIn(i, a) & 1 << LATE_WAY;
                int others = waysIn(i, a) & ~late;
                if (late != 0) {
                    divide(i, a, passingAhead);
                    addTold(late);
                }
                if (others != 0) {
                    divide(i, a, passingNow);
                    addTold(others);
                }
            }
        }

        /** To parts: a branch's worlds, with one way of a person, by which kinds pass. */
        private void divide(int i, int a, long[] passing) {
            putLong(parts, 0, waysBut(i, a));
            for (int k = 0; k < house.kinds; k++) {
                long times = branchTime(i, k);
                long yes = Long.bitCount(times & longAt(passing, k));
                long no = Long.bitCount(times) - yes;
                int bit = 1 << k;
                for (int set = 0; set < bit; set++) {
                    long part = longAt(parts, set);
                    putLong(parts, set | bit, part * yes);
                    putLong(parts, set, part * no);
                }
            }
        }

        private void addTold(int ways) {
            for (int way = 0; way < MOST_WAYS; way++) {
                if ((ways >>> way & 1) == 1) {
                    for (int set = 0; set < 1 << house.kinds; set++) {
                        int told = toldBy(way, set);
                        putLong(sums, told, longAt(sums, told) + longAt(parts, set));
                    }
                }
            }
        }

        long greatest() {
            long found = 0;
            for (int set = 0; set < MOST_SETS; set++) {
                found = Math.max(found, longAt(sums, set));
            }
            return found;
        }
    }

    /** A table at which persons say in turn whether they know a kind's timetable. */
    private static final class Table {
        // Each round but the last leaves fewer timetables.
        private static final int ROUNDS = MOST_TIMETABLES + 1;

        int size = 0;
        int remaining = NONE;
        int knowers = NONE;
        final int[] sayings = new int[ROUNDS * MOST_PERSONS];
        private int timetables = 0;
        private final int[] hoursOf = new int[MOST_TIMETABLES];

        void hold(House house, int k, int[] speakers, int count) {
            noteHours(at(house.lows, k), at(house.highs, k));
            int truth = at(house.truths, k);
            long possible = (1L << timetables) - 1;
            boolean isGoing = true;
            size = 0;
            for (int round = 0; round < ROUNDS && isGoing; round++) {
                long before = possible;
                for (int i = 0; i < count; i++) {
                    possible = say(possible, truth, at(house.looked, at(speakers, i)));
                }
                isGoing = possible != before;
            }
            remaining = Long.bitCount(possible);
            knowers = 0;
            for (int i = 0; i < count; i++) {
                int a = at(speakers, i);
                if (isAlone(possible, truth, at(house.looked, a))) {
                    knowers |= 1 << a;
                }
            }
        }

        /** The hours of each timetable of a kind, as bits. */
        private void noteHours(int low, int high) {
            timetables = 0;
            for (int p = 1; p <= LONGEST_PERIOD; p++) {
                for (int phase = 0; phase < p && p >= low && p <= high; phase++) {
                    int hours = 0;
                    for (int hour = phase; hour < HOURS; hour += p) {
                        hours |= 1 << hour;
                    }
                    put(hoursOf, timetables, hours);
                    timetables++;
                }
            }
        }

        /** One says whether he knows; those timetables stay with which he would have said so. */
        private long say(long possible, int truth, int looked) {
            boolean knows = isAlone(possible, truth, looked);
            put(sayings, size, knows ? 1 : 0);
            size++;
            long stay = 0;
            for (int t = 0; t < timetables; t++) {
                if ((possible >>> t & 1) == 1 && isAlone(possible, t, looked) == knows) {
                    stay |= 1L << t;
                }
            }
            return stay;
        }

        /** Whether just one possible timetable looks like this one in the hours looked at. */
        private boolean isAlone(long possible, int t, int looked) {
            int like = 0;
            for (int other = 0; other < timetables && like < 2; other++) {
                int unlike = (at(hoursOf, other) ^ at(hoursOf, t)) & looked;
                if ((possible >>> other & 1) == 1 && unlike == 0) {
                    like++;
                }
            }
            return like == 1;
        }
    }
}
