import java.util.ArrayList;
import java.util.Arrays;
import java.util.HashMap;
import java.util.HashSet;
import java.util.List;
import java.util.Map;
import java.util.NoSuchElementException;
import java.util.Set;
import java.util.TreeSet;
import java.util.function.Predicate;

/**
 * The document once more, written as slowly and plainly as can be: each world is made and asked.
 * Only for houses with few worlds.
 */
final class Model {
    static final Set<String> WORDS = Set.of("kind", "by", "person", "true", "late", "hides", "adds",
            "looks", "turn", "wants");

    static final class Fault extends RuntimeException {
        private static final long serialVersionUID = 1L;
        final int kind;
        final int place;

        Fault(int kind, int place) {
            this.kind = kind;
            this.place = place;
        }
    }

    record Kind(String name, int low, int high, int[] truth) {
        List<int[]> timetables() {
            List<int[]> all = new ArrayList<>();
            for (int p = low; p <= high; p++) {
                for (int q = 0; q < p; q++) {
                    all.add(new int[] {p, q});
                }
            }
            return all;
        }

        int truthNumber() {
            for (int t = 0; t < timetables().size(); t++) {
                if (truth != null && Arrays.equals(truth, timetables().get(t))) {
                    return t;
                }
            }
            return -1;
        }
    }

    record Person(String name, TreeSet<Integer> ways) { }

    record Telling(int person, int hour, int kinds) { }

    record World(int[] times, int[] ways) { }

    static final class State {
        List<Kind> kinds = new ArrayList<>();
        List<Person> persons = new ArrayList<>();
        Set<List<Integer>> looks = new HashSet<>();
        Map<Integer, Integer> turns = new HashMap<>();
        Map<List<Integer>, Integer> wants = new HashMap<>();
        List<Telling> told = new ArrayList<>();

        State copy() {
            State other = new State();
            other.kinds.addAll(kinds);
            other.persons.addAll(persons);
            other.looks.addAll(looks);
            other.turns.putAll(turns);
            other.wants.putAll(wants);
            other.told.addAll(told);
            return other;
        }

        int kindOf(String name) {
            for (int k = 0; k < kinds.size(); k++) {
                if (kinds.get(k).name.equals(name)) {
                    return k;
                }
            }
            return -1;
        }

        int personOf(String name) {
            for (int a = 0; a < persons.size(); a++) {
                if (persons.get(a).name.equals(name)) {
                    return a;
                }
            }
            return -1;
        }
    }

    String tape = "";
    int lastFault = 0;
    State now = new State();
    State[] images = new State[2];
    List<Integer> sayings = null;
    int possibleAtEnd;
    int knowersAtEnd;

    // ---- texts

    /** Takes token after token off a text; "" at the end. */
    static final class Text {
        final String all;
        final int most;
        int place = 0;

        Text(String all, int most) {
            this.all = all;
            this.most = most;
        }

        private void skip() {
            while (place < all.length() && (all.charAt(place) == ' ' || all.charAt(place) == '\n')) {
                place++;
            }
        }

        boolean isAtEnd() {
            skip();
            if (place >= most && all.length() > most) {
                throw new Fault(1, most);
            }
            return place >= all.length();
        }

        String peek() {
            if (isAtEnd()) {
                throw new Fault(1, all.length());
            }
            int till = place;
            while (till < all.length() && String.valueOf(all.charAt(till)).matches("[a-z0-9]")) {
                till++;
            }
            return till == place ? all.substring(place, place + 1) : all.substring(place, till);
        }

        void fault(int kind) {
            throw new Fault(kind, place);
        }

        String word() {
            String token = peek();
            if (!token.matches("[a-z]{1,6}")) {
                fault(1);
            }
            return token;
        }

        String name() {
            String token = word();
            if (WORDS.contains(token)) {
                fault(1);
            }
            return token;
        }

        int number(int low, int high) {
            String token = peek();
            if (!token.matches("[0-9]{1,2}")) {
                fault(1);
            }
            int number = Integer.parseInt(token);
            if (number < low || number > high) {
                fault(2);
            }
            return number;
        }

        void go() {
            place += peek().length();
        }

        int takeNumber(int low, int high) {
            int number = number(low, high);
            go();
            return number;
        }

        void semicolon() {
            if (!peek().equals(";")) {
                fault(1);
            }
            go();
        }
    }

    private static int takePerson(Text text, State state) {
        int a = state.personOf(text.name());
        if (a < 0) {
            text.fault(3);
        }
        text.go();
        return a;
    }

    int house() {
        Text text = new Text(tape, 900);
        tape = "";
        lastFault = 0;
        State fresh = new State();
        int lines = 0;
        try {
            while (!text.isAtEnd()) {
                houseLine(text, fresh);
                text.semicolon();
                lines++;
            }
        } catch (Fault fault) {
            lastFault = fault.kind;
            return -1 - fault.place;
        }
        now = fresh;
        return lines;
    }

    private static void houseLine(Text text, State fresh) {
        switch (text.peek()) {
            case "kind" -> kindLine(text, fresh);
            case "person" -> personLine(text, fresh);
            case "looks" -> {
                text.go();
                int a = takePerson(text, fresh);
                int hour = text.number(0, 29);
                if (!fresh.looks.add(List.of(a, hour))) {
                    text.fault(3);
                }
                text.go();
            }
            case "turn" -> {
                text.go();
                int hour = text.number(0, 29);
                if (fresh.turns.containsKey(hour)) {
                    text.fault(3);
                }
                text.go();
                fresh.turns.put(hour, takePerson(text, fresh));
            }
            case "wants" -> {
                text.go();
                int a = takePerson(text, fresh);
                int hour = text.number(0, 29);
                if (fresh.wants.containsKey(List.of(a, hour))) {
                    text.fault(3);
                }
                text.go();
                fresh.wants.put(List.of(a, hour), text.takeNumber(0, 99));
            }
            default -> text.fault(1);
        }
    }

    private static String takeNewName(Text text, State fresh) {
        String name = text.name();
        if (fresh.kindOf(name) >= 0 || fresh.personOf(name) >= 0) {
            text.fault(3);
        }
        text.go();
        return name;
    }

    private static void kindLine(Text text, State fresh) {
        if (!fresh.persons.isEmpty()) {
            text.fault(3);
        }
        if (fresh.kinds.size() == 3) {
            text.fault(4);
        }
        text.go();
        String name = takeNewName(text, fresh);
        int low = text.takeNumber(1, 8);
        int high = text.takeNumber(low, 8);
        int[] truth = null;
        if (text.peek().equals("by")) {
            text.go();
            int period = text.takeNumber(low, high);
            truth = new int[] {period, text.takeNumber(0, period - 1)};
        }
        fresh.kinds.add(new Kind(name, low, high, truth));
    }

    private static void personLine(Text text, State fresh) {
        if (fresh.persons.size() == 4) {
            text.fault(4);
        }
        text.go();
        String name = takeNewName(text, fresh);
        TreeSet<Integer> ways = new TreeSet<>();
        boolean isAll = text.peek().equals(";");
        while (!text.peek().equals(";")) {
            String word = text.peek();
            int way = switch (word) {
                case "true" -> 0;
                case "late" -> 1;
                case "hides", "adds" -> {
                    text.go();
                    int k = fresh.kindOf(text.name());
                    if (k < 0) {
                        text.fault(3);
                    }
                    yield (word.equals("hides") ? 2 : 3) + 2 * k;
                }
                default -> {
                    text.fault(1);
                    yield 0;
                }
            };
            if (!ways.add(way)) {
                text.fault(3);
            }
            text.go();
        }
        for (int way = 0; isAll && way < 2 + 2 * fresh.kinds.size(); way++) {
            ways.add(way);
        }
        fresh.persons.add(new Person(name, ways));
    }

    int tellings() {
        Text text = new Text(tape, 600);
        tape = "";
        lastFault = 0;
        List<Telling> fresh = new ArrayList<>();
        try {
            while (!text.isAtEnd()) {
                String name = text.name();
                int a = now.personOf(name);
                if (a < 0) {
                    text.fault(3);
                }
                if (fresh.size() == 40) {
                    text.fault(4);
                }
                text.go();
                int hour = text.takeNumber(0, 29);
                int kinds = 0;
                while (!text.peek().equals(";")) {
                    int k = now.kindOf(text.name());
                    if (k < 0 || (kinds & 1 << k) != 0) {
                        text.fault(3);
                    }
                    kinds += 1 << k;
                    text.go();
                }
                text.semicolon();
                fresh.add(new Telling(a, hour, kinds));
            }
        } catch (Fault fault) {
            lastFault = fault.kind;
            return -1 - fault.place;
        }
        now.told = fresh;
        return fresh.size();
    }

    int rules() {
        Text text = new Text(tape, 300);
        tape = "";
        lastFault = 0;
        Map<Integer, Integer> fresh = new HashMap<>();
        int lines = 0;
        try {
            while (!text.isAtEnd()) {
                int a = takePerson(text, now);
                int from = text.takeNumber(0, 29);
                int till = text.takeNumber(from, 29);
                int every = text.takeNumber(1, 30);
                text.semicolon();
                for (int hour = from; hour <= till; hour += every) {
                    fresh.putIfAbsent(hour, a);
                }
                lines++;
            }
        } catch (Fault fault) {
            lastFault = fault.kind;
            return -1 - fault.place;
        }
        now.turns = fresh;
        return lines;
    }

    // ---- worlds

    static boolean passes(int[] timetable, int hour) {
        for (int h = timetable[1]; h < 30; h += timetable[0]) {
            if (h == hour) {
                return true;
            }
        }
        return false;
    }

    int[] timetable(int k, int t) {
        return now.kinds.get(k).timetables().get(t);
    }

    int tells(int[] times, int way, int hour) {
        int told = 0;
        for (int k = 0; k < now.kinds.size(); k++) {
            boolean passesNow = passes(timetable(k, times[k]), way == 1 ? hour - 1 : hour);
            if (way == 2 + 2 * k) {
                passesNow = false;
            }
            if (way == 3 + 2 * k) {
                passesNow = true;
            }
            told += passesNow ? 1 << k : 0;
        }
        return told;
    }

    List<World> allWorlds(int tellings) {
        List<World> found = new ArrayList<>();
        int kinds = now.kinds.size();
        int persons = now.persons.size();
        int[] sizes = new int[kinds + persons];
        long product = 1;
        for (int i = 0; i < sizes.length; i++) {
            sizes[i] = i < kinds ? now.kinds.get(i).timetables().size() : 2 + 2 * kinds;
            product *= sizes[i];
        }
        for (long code = 0; code < product; code++) {
            int[] choice = new int[sizes.length];
            long rest = code;
            for (int i = 0; i < sizes.length; i++) {
                choice[i] = (int) (rest % sizes[i]);
                rest /= sizes[i];
            }
            World world = new World(Arrays.copyOf(choice, kinds), Arrays.copyOfRange(choice, kinds, sizes.length));
            if (isAllowed(world) && tellsAll(world, tellings)) {
                found.add(world);
            }
        }
        return found;
    }

    private boolean isAllowed(World world) {
        for (int a = 0; a < world.ways.length; a++) {
            if (!now.persons.get(a).ways.contains(world.ways[a])) {
                return false;
            }
        }
        return true;
    }

    private boolean tellsAll(World world, int tellings) {
        for (Telling telling : now.told.subList(0, tellings)) {
            if (tells(world.times, world.ways[telling.person], telling.hour) != telling.kinds) {
                return false;
            }
        }
        return true;
    }

    private List<World> cached = null;
    private State cachedFor = null;
    private List<Telling> cachedTold = null;

    List<World> allWorlds() {
        if (cachedFor != now || !now.told.equals(cachedTold)) {
            cached = allWorlds(now.told.size());
            cachedFor = now;
            cachedTold = List.copyOf(now.told);
        }
        return cached;
    }

    private long number(Predicate<World> which) {
        return allWorlds().stream().filter(which).count();
    }

    private static boolean in(int i, int below) {
        return i >= 0 && i < below;
    }

    private boolean kindAt(int k) {
        return in(k, now.kinds.size());
    }

    private boolean personAt(int a) {
        return in(a, now.persons.size());
    }

    private static void demand(boolean holds) {
        if (!holds) {
            throw new NoSuchElementException();
        }
    }

    // ---- the face

    int feed(int... five) {
        if (tape.length() + 20 > 940) {
            return -1;
        }
        StringBuilder longer = new StringBuilder(tape);
        for (int number : five) {
            String hex = String.format("%08x", number);
            for (int i = 0; i < 8; i += 2) {
                longer.append((char) Integer.parseInt(hex.substring(i, i + 2), 16));
            }
        }
        tape = longer.toString();
        return tape.length();
    }

    boolean end(int n) {
        if (!in(n, tape.length() + 1)) {
            return false;
        }
        tape = tape.substring(0, n);
        return true;
    }

    int kind(int k, int what) {
        demand(kindAt(k) && in(what, 4));
        Kind kind = now.kinds.get(k);
        return new int[] {kind.low, kind.high, kind.truthNumber(), kind.timetables().size()}[what];
    }

    int passes(int k, int t, int hour) {
        if (!kindAt(k) || !in(t, now.kinds.get(k).timetables().size()) || !in(hour, 30)) {
            return -1;
        }
        return passes(timetable(k, t), hour) ? 1 : 0;
    }

    int may(int a) {
        return personAt(a) ? now.persons.get(a).ways.stream().mapToInt(w -> 1 << w).sum() : -1;
    }

    int tell(int a, int hour, int kinds) {
        if (now.told.size() == 40 || !personAt(a) || !in(hour, 30) || !in(kinds, 1 << now.kinds.size())) {
            return -1;
        }
        now.told.add(new Telling(a, hour, kinds));
        return now.told.size() - 1;
    }

    int untell() {
        if (now.told.isEmpty()) {
            return -1;
        }
        now.told.remove(now.told.size() - 1);
        return now.told.size();
    }

    int telling(int i, int what) {
        demand(in(i, now.told.size()) && in(what, 3));
        Telling telling = now.told.get(i);
        return new int[] {telling.person, telling.hour, telling.kinds}[what];
    }

    long worlds() {
        return allWorlds().size();
    }

    long worldsOf(int k, int t) {
        if (!kindAt(k) || !in(t, now.kinds.get(k).timetables().size())) {
            return -1;
        }
        return number(w -> w.times[k] == t);
    }

    long waysOf(int a, int way) {
        if (!personAt(a) || !in(way, 2 + 2 * now.kinds.size())) {
            return -1;
        }
        return number(w -> w.ways[a] == way);
    }

    private boolean passesIn(World world, int k, int hour) {
        return passes(timetable(k, world.times[k]), hour);
    }

    int sure(int k, int hour) {
        if (!kindAt(k) || !in(hour, 30) || worlds() == 0) {
            return -1;
        }
        long passing = number(w -> passesIn(w, k, hour));
        return passing == worlds() ? 1 : passing == 0 ? 0 : 2;
    }

    private static long least(long above, long below, int what) {
        for (long d = below; d > 1; d--) {
            if (above % d == 0 && below % d == 0) {
                return (what == 0 ? above : below) / d;
            }
        }
        return what == 0 ? above : below;
    }

    long odds(int k, int hour, int what) {
        demand(kindAt(k) && in(hour, 30) && in(what, 2) && worlds() > 0);
        return least(number(w -> passesIn(w, k, hour)), worlds(), what);
    }

    int hours(int k, int what) {
        if (!kindAt(k) || !in(what, 3) || worlds() == 0) {
            return -1;
        }
        int bits = 0;
        for (int hour = 0; hour < 30; hour++) {
            bits |= sure(k, hour) == what ? 1 << hour : 0;
        }
        return bits;
    }

    long both(int k, int l, int hour) {
        if (!kindAt(k) || !kindAt(l) || !in(hour, 30)) {
            return -1;
        }
        return number(w -> passesIn(w, k, hour) && passesIn(w, l, hour));
    }

    private int nextHour(World world, int k, int from) {
        for (int hour = from; hour < 30; hour++) {
            if (passesIn(world, k, hour)) {
                return hour;
            }
        }
        return 1000;
    }

    private boolean wins(World world, int k, int from) {
        int own = nextHour(world, k, from);
        for (int l = 0; l < now.kinds.size(); l++) {
            if (l != k && nextHour(world, l, from) <= own) {
                return false;
            }
        }
        return own < 30;
    }

    long bet(int k, int hour, int what) {
        demand(kindAt(k) && in(hour, 30) && in(what, 2) && worlds() > 0);
        return least(number(w -> wins(w, k, hour)), worlds(), what);
    }

    int lying(int what) {
        if (!in(what, 2) || worlds() == 0) {
            return -1;
        }
        int bits = 0;
        for (int a = 0; a < now.persons.size(); a++) {
            int person = a;
            long lies = number(w -> w.ways[person] != 0);
            bits |= lies == (what == 0 ? worlds() : 0) ? 1 << a : 0;
        }
        return bits;
    }

    private TreeSet<Integer> liarSets() {
        TreeSet<Integer> sets = new TreeSet<>();
        int fewest = 5;
        for (World world : allWorlds()) {
            int set = 0;
            for (int a = 0; a < world.ways.length; a++) {
                set += world.ways[a] == 0 ? 0 : 1 << a;
            }
            sets.add(set);
            fewest = Math.min(fewest, Integer.bitCount(set));
        }
        int least = fewest;
        sets.removeIf(set -> Integer.bitCount(set) > least);
        return sets;
    }

    int liars() {
        return worlds() == 0 ? -1 : Integer.bitCount(liarSets().first());
    }

    int liarSet(int k) {
        if (worlds() == 0) {
            return -1;
        }
        List<Integer> sets = List.copyOf(liarSets());
        return k == -1 ? sets.size() : in(k, sets.size()) ? sets.get(k) : -1;
    }

    int clash() {
        for (int n = 1; n <= now.told.size(); n++) {
            if (allWorlds(n).isEmpty()) {
                return n - 1;
            }
        }
        return -1;
    }

    long wouldTell(int a, int hour, int kinds) {
        if (!personAt(a) || !in(hour, 30) || !in(kinds, 1 << now.kinds.size())) {
            return -1;
        }
        return number(w -> tells(w.times, w.ways[a], hour) == kinds);
    }

    long left(int a, int hour) {
        if (!personAt(a) || !in(hour, 30)) {
            return -1;
        }
        long most = 0;
        for (int kinds = 0; kinds < 1 << now.kinds.size(); kinds++) {
            most = Math.max(most, wouldTell(a, hour, kinds));
        }
        return most;
    }

    int next() {
        if (now.persons.isEmpty() || worlds() == 0) {
            return -1;
        }
        int best = 0;
        for (int a = 0; a < now.persons.size(); a++) {
            for (int hour = 0; hour < 30; hour++) {
                if (left(a, hour) < left(best / 100, best % 100)) {
                    best = 100 * a + hour;
                }
            }
        }
        return best;
    }

    // ---- the table

    private List<Boolean> view(int a, int[] timetable) {
        List<Boolean> seen = new ArrayList<>();
        for (int hour = 0; hour < 30; hour++) {
            if (now.looks.contains(List.of(a, hour))) {
                seen.add(passes(timetable, hour));
            }
        }
        return seen;
    }

    private boolean knows(int a, List<int[]> possible, int[] truth) {
        return possible.stream().filter(t -> view(a, t).equals(view(a, truth))).count() == 1;
    }

    int table(int k) {
        String order = tape;
        tape = "";
        boolean fine = order.length() >= 1 && order.length() <= 4 && kindAt(k) && kind(k, 2) >= 0
                && order.chars().allMatch(this::personAt) && order.chars().distinct().count() == order.length();
        if (!fine) {
            return -1;
        }
        List<int[]> possible = now.kinds.get(k).timetables();
        int[] truth = now.kinds.get(k).truth;
        sayings = new ArrayList<>();
        int ahead;
        do {
            ahead = possible.size();
            for (char speaker : order.toCharArray()) {
                boolean says = knows(speaker, possible, truth);
                sayings.add(says ? 1 : 0);
                List<int[]> were = possible;
                possible = were.stream().filter(t -> knows(speaker, were, t) == says).toList();
            }
        } while (possible.size() != ahead);
        possibleAtEnd = possible.size();
        knowersAtEnd = 0;
        for (char speaker : order.toCharArray()) {
            knowersAtEnd |= knows(speaker, possible, truth) ? 1 << speaker : 0;
        }
        return sayings.size();
    }

    int said(int i) {
        return sayings != null && in(i, sayings.size()) ? sayings.get(i) : -1;
    }

    int ended(int what) {
        return sayings == null || !in(what, 2) ? -1 : what == 0 ? possibleAtEnd : knowersAtEnd;
    }

    // ---- turns

    int turn(int hour) {
        return now.turns.getOrDefault(hour, -1);
    }

    private int content(int a, Map<Integer, Integer> turns) {
        int sum = 0;
        for (Map.Entry<Integer, Integer> turn : turns.entrySet()) {
            sum += turn.getValue() == a ? now.wants.getOrDefault(List.of(a, turn.getKey()), 0) : 0;
        }
        return sum;
    }

    int content(int a) {
        return personAt(a) ? content(a, now.turns) : -1;
    }

    int trade() {
        int times = 0;
        while (times < 100 && tradeFirst()) {
            times++;
        }
        return times;
    }

    private boolean tradeFirst() {
        for (int h = 0; h < 30; h++) {
            for (int g = h + 1; g < 30; g++) {
                int a = turn(h);
                int b = turn(g);
                if (a >= 0 && b >= 0 && a != b) {
                    Map<Integer, Integer> turns = new HashMap<>(now.turns);
                    turns.put(h, b);
                    turns.put(g, a);
                    int moreA = content(a, turns) - content(a);
                    int moreB = content(b, turns) - content(b);
                    if (moreA >= 0 && moreB >= 0 && (moreA > 0 || moreB > 0)) {
                        now.turns = turns;
                        return true;
                    }
                }
            }
        }
        return false;
    }

    boolean drawn(int n, int seed) {
        String given = tape;
        tape = "";
        boolean fine = n >= 1 && n <= 40 && !now.persons.isEmpty() && given.length() == now.persons.size()
                && given.chars().allMatch(w -> in(w, 2 + 2 * now.kinds.size()))
                && now.kinds.stream().allMatch(k -> k.truth != null);
        if (!fine) {
            return false;
        }
        int[] times = now.kinds.stream().mapToInt(Kind::truthNumber).toArray();
        now.told = new ArrayList<>();
        int[] x = {seed};
        for (int i = 0; i < n; i++) {
            int a = draw(x, now.persons.size());
            int hour = draw(x, 30);
            now.told.add(new Telling(a, hour, tells(times, given.charAt(a), hour)));
        }
        return true;
    }

    private static int draw(int[] x, int n) {
        x[0] = (int) (x[0] * 1103515245L + 12345L);
        return (int) ((x[0] & 0xffffffffL) / 256 % n);
    }

    boolean image(int k) {
        if (!in(k, 2)) {
            return false;
        }
        images[k] = now.copy();
        return true;
    }

    boolean restore(int k) {
        if (!in(k, 2) || images[k] == null) {
            return false;
        }
        now = images[k].copy();
        return true;
    }

    int count(int what) {
        return in(what, 5) ? new int[] {now.kinds.size(), now.persons.size(), now.told.size(),
            now.turns.size(), tape.length()}[what] : -1;
    }
}
