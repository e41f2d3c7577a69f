import java.util.ArrayList;
import java.util.List;
import java.util.NoSuchElementException;
import java.util.Random;

/** Runs of calls drawn by seeds, each answer held against the model's. */
public final class ModelTest {
    private static final int RUNS = 1500;
    private static final int CALLS = 120;
    private static final long MOST_WORLDS = 6000;
    private static final String[] TOKENS = {"kind", "by", "person", "true", "late", "hides", "adds", "looks",
        "turn", "wants", ";", "0", "1", "2", "3", "8", "9", "29", "30", "31", "99", "100", "01", "c", "d", "e",
        "ann", "bob", "cleo", "dan", "eve", "nobody", "x1", "1x", "toolong", "K", ".", "\n", "\t", "\u00e9"};
    private static final String[] KINDS = {"c", "d", "e", "f"};
    private static final String[] PERSONS = {"ann", "bob", "cleo", "dan", "eve"};

    private final Random random;
    private final int run;
    private final WindowTurns x = new WindowTurns();
    private final Model model = new Model();

    private ModelTest(int run) {
        this.run = run;
        random = new Random(run);
    }

    public static void main(String[] args) {
        for (int run = 0; run < RUNS; run++) {
            new ModelTest(run).go();
        }
        Check.end();
    }

    private void go() {
        setHouse();
        for (int call = 0; call < CALLS; call++) {
            int dice = random.nextInt(100);
            if (dice < 5) {
                setHouse();
            } else if (dice < 15) {
                setTellings();
            } else if (dice < 19) {
                setRules();
            } else if (dice < 23) {
                setTable();
            } else if (dice < 26) {
                setDrawn();
            } else if (dice < 55) {
                stateCall();
            } else {
                worldCall();
            }
        }
    }

    // ---- texts drawn

    private int below(int n) {
        return random.nextInt(n);
    }

    private String pickOf(String[] words, int n) {
        return words[below(n)];
    }

    private List<String> houseTokens() {
        List<String> tokens = new ArrayList<>();
        int kinds = below(4);
        int widest = kinds == 3 ? 2 : kinds == 2 ? 3 : 8;
        for (int k = 0; k < kinds; k++) {
            int low = 1 + below(widest);
            int high = low + below(Math.min(3, widest - low + 1));
            tokens.addAll(List.of("kind", KINDS[k], "" + low, "" + high));
            if (below(5) > 0) {
                int period = low + below(high - low + 1);
                tokens.addAll(List.of("by", "" + period, "" + below(period)));
            }
            tokens.add(";");
        }
        int persons = below(kinds == 3 ? 3 : 5);
        for (int a = 0; a < persons; a++) {
            tokens.addAll(List.of("person", PERSONS[a]));
            addWays(tokens, kinds);
            tokens.add(";");
        }
        for (int i = below(14); i > 0 && persons > 0; i--) {
            String who = pickOf(PERSONS, persons);
            String hour = "" + below(below(2) == 0 ? 8 : 30);
            switch (below(3)) {
                case 0 -> tokens.addAll(List.of("looks", who, hour, ";"));
                case 1 -> tokens.addAll(List.of("turn", hour, who, ";"));
                default -> tokens.addAll(List.of("wants", who, hour, "" + below(8), ";"));
            }
        }
        return tokens;
    }

    private void addWays(List<String> tokens, int kinds) {
        if (below(4) == 0) {
            return;
        }
        if (below(2) == 0) {
            tokens.add("true");
        }
        if (below(2) == 0) {
            tokens.add("late");
        }
        for (int k = 0; k < kinds; k++) {
            if (below(3) == 0) {
                tokens.addAll(List.of("hides", KINDS[k]));
            }
            if (below(3) == 0) {
                tokens.addAll(List.of("adds", KINDS[k]));
            }
        }
    }

    private String joined(List<String> tokens) {
        int changes = below(3) == 0 ? 1 + below(2) : 0;
        for (int i = 0; i < changes && !tokens.isEmpty(); i++) {
            int place = below(tokens.size());
            switch (below(3)) {
                case 0 -> tokens.set(place, pickOf(TOKENS, TOKENS.length));
                case 1 -> tokens.add(place, pickOf(TOKENS, TOKENS.length));
                default -> tokens.remove(place);
            }
        }
        StringBuilder text = new StringBuilder();
        for (String token : tokens) {
            boolean isBlankNeeded = text.length() > 0 && !token.equals(";") && text.charAt(text.length() - 1) != ';';
            text.append(isBlankNeeded || below(4) == 0 ? below(5) == 0 ? "\n" : " " : "").append(token);
        }
        return text.toString();
    }

    /** Some texts are made long by blanks, at one place, so as to come about the most bytes. */
    private String stretched(String text, int most) {
        if (below(8) != 0 || text.length() > most) {
            return text;
        }
        int place = below(text.length() + 1);
        int goal = Math.min(940, most - 5 + below(12));
        return text.substring(0, place) + " ".repeat(Math.max(0, goal - text.length())) + text.substring(place);
    }

    private void feedBoth(String text) {
        Check.feed(x, text);
        model.tape = text;
    }

    private void setHouse() {
        String text = stretched(joined(houseTokens()), 900);
        if (text.length() > 940) {
            return;
        }
        feedBoth(text);
        same("house of " + text, model.house(), x.house());
        same("fault", model.lastFault, x.fault());
    }

    private void setTellings() {
        List<String> tokens = new ArrayList<>();
        int persons = Math.max(1, model.now.persons.size());
        int kinds = model.now.kinds.size();
        int[] times = new int[kinds];
        for (int k = 0; k < kinds; k++) {
            times[k] = below(model.now.kinds.get(k).timetables().size());
        }
        int[] ways = new int[persons];
        for (int a = 0; a < model.now.persons.size(); a++) {
            List<Integer> may = List.copyOf(model.now.persons.get(a).ways());
            ways[a] = may.get(below(may.size()));
        }
        int lines = below(20) == 0 ? 38 + below(5) : below(7);
        for (int i = 0; i < lines; i++) {
            int a = below(persons);
            int hour = below(lines > 37 ? 9 : 30);
            int told = below(12) == 0 ? below(1 << kinds) : model.tells(times, ways[a], hour);
            tokens.addAll(List.of(PERSONS[a], "" + hour));
            for (int k = 0; k < kinds; k++) {
                if ((told >> k & 1) == 1) {
                    tokens.add(KINDS[k]);
                }
            }
            tokens.add(";");
        }
        String text = stretched(joined(tokens), 600);
        if (text.length() > 940) {
            return;
        }
        feedBoth(text);
        same("tellings of " + text, model.tellings(), x.tellings());
        same("fault", model.lastFault, x.fault());
    }

    private void setRules() {
        List<String> tokens = new ArrayList<>();
        for (int i = below(5); i > 0; i--) {
            int from = below(30);
            tokens.addAll(List.of(pickOf(PERSONS, Math.max(1, model.now.persons.size())), "" + from,
                    "" + (from + below(30 - from)), "" + (1 + below(30)), ";"));
        }
        String text = stretched(joined(tokens), 300);
        feedBoth(text);
        same("rules of " + text, model.rules(), x.rules());
        same("fault", model.lastFault, x.fault());
    }

    private void setTable() {
        StringBuilder order = new StringBuilder();
        int persons = model.now.persons.size();
        int first = below(5);
        for (int i = below(persons + 2); i > 0; i--) {
            order.append((char) (below(15) == 0 ? below(256) : persons == 0 ? 0 : (first + i) % persons));
        }
        feedBoth(order.toString());
        int k = below(4);
        same("table " + k, model.table(k), x.table(k));
        for (int i = -1; i < 20; i++) {
            same("said " + i, model.said(i), x.said(i));
        }
        same("ended 0", model.ended(0), x.ended(0));
        same("ended 1", model.ended(1), x.ended(1));
    }

    private void setDrawn() {
        StringBuilder ways = new StringBuilder();
        int given = model.now.persons.size() + (below(8) == 0 ? 1 : 0);
        for (int a = 0; a < given; a++) {
            ways.append((char) below(2 + 2 * model.now.kinds.size() + (below(10) == 0 ? 1 : 0)));
        }
        feedBoth(ways.toString());
        int n = below(10) == 0 ? below(44) - 1 : 1 + below(8);
        int seed = random.nextInt();
        same("drawn " + n + " " + seed, model.drawn(n, seed), x.drawn(n, seed));
        for (int i = 0; i < model.now.told.size(); i++) {
            sameTelling(i);
        }
    }

    private void sameTelling(int i) {
        for (int what = 0; what < 3; what++) {
            int of = what;
            sameCall("telling " + i + " " + what, () -> model.telling(i, of), () -> x.telling(i, of));
        }
    }

    // ---- calls drawn

    private int number(int most) {
        if (below(25) == 0) {
            int[] wild = {Integer.MIN_VALUE, Integer.MAX_VALUE, -1, -2, 30, 31, 32, 33, 36, 40, 64, 256};
            return wild[below(wild.length)];
        }
        return below(most);
    }

    private void stateCall() {
        int a = number(5);
        int k = number(4);
        int hour = number(30);
        switch (below(17)) {
            case 0 -> sameCall("kind " + k + " " + a, () -> model.kind(k, a), () -> x.kind(k, a));
            case 1 -> same("passes", model.passes(k, hour, a), x.passes(k, hour, a));
            case 2 -> same("passes", model.passes(k, a, hour), x.passes(k, a, hour));
            case 3 -> same("may", model.may(a), x.may(a));
            case 4 -> {
                int kinds = number(1 << model.now.kinds.size());
                same("tell", model.tell(a, hour, kinds), x.tell(a, hour, kinds));
            }
            case 5 -> same("untell", model.untell(), x.untell());
            case 6 -> sameCall("telling", () -> model.telling(hour, k), () -> x.telling(hour, k));
            case 7 -> same("turn", model.turn(hour), x.turn(hour));
            case 8 -> same("content", model.content(a), x.content(a));
            case 9 -> same("trade", model.trade(), x.trade());
            case 10 -> same("image", model.image(k), x.image(k));
            case 11 -> same("restore", model.restore(k), x.restore(k));
            case 12 -> same("count", model.count(a), x.count(a));
            case 13 -> {
                int number = random.nextInt();
                same("feed", model.feed(number, a, k, hour, -1), x.feed(number, a, k, hour, -1));
            }
            case 14 -> same("end", model.end(hour), x.end(hour));
            case 15 -> same("said", model.said(hour), x.said(hour));
            default -> same("ended", model.ended(a), x.ended(a));
        }
    }

    private boolean isSmall() {
        long product = 1;
        for (Model.Kind kind : model.now.kinds) {
            product *= kind.timetables().size();
        }
        for (int a = 0; a < model.now.persons.size(); a++) {
            product *= 2 + 2 * model.now.kinds.size();
        }
        return product <= MOST_WORLDS;
    }

    private void worldCall() {
        if (!isSmall()) {
            return;
        }
        int a = number(4);
        int k = number(3);
        int hour = number(30);
        int what = number(2);
        switch (below(17)) {
            case 0 -> same("worlds", model.worlds(), x.worlds());
            case 1 -> same("worldsOf", model.worldsOf(k, hour), x.worldsOf(k, hour));
            case 2 -> same("waysOf", model.waysOf(a, hour % 9), x.waysOf(a, hour % 9));
            case 3 -> same("sure", model.sure(k, hour), x.sure(k, hour));
            case 4, 5 -> sameCall("odds", () -> model.odds(k, hour, what), () -> x.odds(k, hour, what));
            case 6 -> same("hours", model.hours(k, a), x.hours(k, a));
            case 7 -> same("both", model.both(k, a, hour), x.both(k, a, hour));
            case 8, 9 -> sameCall("bet", () -> model.bet(k, hour, what), () -> x.bet(k, hour, what));
            case 10 -> same("lying", model.lying(what), x.lying(what));
            case 11 -> same("liars", model.liars(), x.liars());
            case 12 -> {
                for (int i = -2; i < 7; i++) {
                    same("liarSet " + i, model.liarSet(i), x.liarSet(i));
                }
            }
            case 13 -> same("clash", model.clash(), x.clash());
            case 14 -> {
                int kinds = number(8);
                same("wouldTell", model.wouldTell(a, hour, kinds), x.wouldTell(a, hour, kinds));
            }
            case 15 -> same("left", model.left(a, hour), x.left(a, hour));
            default -> {
                if (model.worlds() < 400 && below(3) == 0) {
                    same("next", model.next(), x.next());
                }
            }
        }
    }

    private void same(String what, long due, long got) {
        Check.same("run " + run + ": " + what, due, got);
    }

    private void same(String what, boolean due, boolean got) {
        Check.same("run " + run + ": " + what, due, got);
    }

    private void sameCall(String what, Check.Call due, Check.Call got) {
        long answer;
        try {
            answer = due.answer();
        } catch (NoSuchElementException e) {
            Check.noSuch("run " + run + ": " + what, got);
            return;
        }
        same(what, answer, got.answer());
    }
}
