import java.util.List;
import java.util.function.ToLongFunction;

/** What the document says of calls, sentence by sentence: just within each boundary and just beyond it. */
public final class EdgeCallTest {
    private static final int MIN = Integer.MIN_VALUE;
    private static final int MAX = Integer.MAX_VALUE;
    private static final int[] FAR = {MIN, MIN + 1, -65, -33, -32, -2, -1, 64, 256, 1 << 30, MAX};
    private static final String TRUTHS = "kind c 2 2 by 2 0;kind d 3 3 by 3 0;kind e 1 1 by 1 0;";

    private EdgeCallTest() {
    }

    public static void main(String[] args) {
        tapeToItsEnd();
        tapeIsEmptyWhateverIsAnswered();
        everyTimetable();
        numbersFar();
        nothingAheadOfZero();
        tellingsToForty();
        clashAtEach();
        everySet();
        sureToTheLastHour();
        oddsInLeastNumbers();
        betToTheLastHour();
        betOfThree();
        bothOfTheSame();
        liarsOfFour();
        nextOfLikeOnes();
        nextBehindTheLastHour();
        Check.end();
    }

    private static Model modelOf(String house) {
        Model model = new Model();
        model.tape = house;
        model.house();
        return model;
    }

    // 2: "NONE, and none come, if it would have more than 940"; 3: "false, if it has not so many, or n is below 0"
    private static void tapeToItsEnd() {
        for (int n = 0; n <= 940; n++) {
            WindowTurns x = new WindowTurns();
            for (int i = 0; i < 47; i++) {
                x.feed(0x61626364, 0, -1, MIN, MAX);
            }
            Check.same("full", 940, x.count(4));
            Check.same("end of 941", false, x.end(941));
            Check.same("end of " + n, true, x.end(n));
            Check.same("bytes", n, x.count(4));
            Check.same("end of one more", false, x.end(n + 1));
            Check.same("feed behind " + n, n <= 920 ? n + 20 : -1, x.feed(1, 2, 3, 4, 5));
            Check.same("bytes then", n <= 920 ? n + 20 : n, x.count(4));
        }
        WindowTurns x = new WindowTurns();
        x.feed(1, 2, 3, 4, 5);
        for (int n : FAR) {
            Check.same("end of " + n, false, x.end(n));
        }
        Check.same("as many as there are", true, x.end(20));
        Check.same("none", true, x.end(0));
        Check.same("not one", false, x.end(1));
    }

    // 4: "The tape (empty then, here and below, whatever is answered)"
    private static void tapeIsEmptyWhateverIsAnswered() {
        String[] tapes = {"", "\0", "\0\1", "\1\0\2", "?", "a 1;", "a 0 1 1;", "person a;", "\7\7\7\7\7"};
        for (String tape : tapes) {
            List<ToLongFunction<WindowTurns>> calls = List.of(WindowTurns::house, WindowTurns::tellings,
                    WindowTurns::rules, x -> x.table(0), x -> x.table(1), x -> x.table(-1), x -> x.drawn(1, 1) ? 1 : 0,
                    x -> x.drawn(0, 1) ? 1 : 0, x -> x.drawn(41, 1) ? 1 : 0);
            for (ToLongFunction<WindowTurns> call : calls) {
                WindowTurns x = Check.of(Check.RICH);
                Check.feed(x, tape);
                call.applyAsLong(x);
                Check.same("bytes left of " + tape, 0, x.count(4));
            }
            WindowTurns x = Check.of(Check.RICH);
            Check.feed(x, tape);
            lookAll(x);
            x.tell(0, 0, 0);
            x.untell();
            x.trade();
            x.image(0);
            x.restore(0);
            Check.same("bytes that others leave", tape.length(), x.count(4));
        }
    }

    private static void lookAll(WindowTurns x) {
        x.fault();
        x.worlds();
        x.sure(0, 0);
        x.liars();
        x.clash();
        x.next();
        x.said(0);
        x.ended(0);
        x.turn(0);
        x.content(0);
    }

    // "p from LOW to HIGH, q from 0 to p less 1 each"; "it passes in HOURS q, q and p, q and 2 p .. (0 to 29"
    private static void everyTimetable() {
        for (int low = 1; low <= 8; low++) {
            for (int high = low; high <= 8; high++) {
                String kind = "kind c " + low + " " + high;
                int t = 0;
                for (int p = low; p <= high; p++) {
                    for (int q = 0; q < p; q++) {
                        checkTimetable(Check.of(kind + " by " + p + " " + q + ";"), t, p, q);
                        t++;
                    }
                }
                WindowTurns x = Check.of(kind + ";");
                Check.same("timetables of " + kind, t, x.kind(0, 3));
                Check.same("no more of them", -1, x.passes(0, t, 0));
                Check.same("no worlds of them", -1, x.worldsOf(0, t));
                Check.same("the last one's worlds", 1, x.worldsOf(0, t - 1));
                Check.same("no truth told", -1, x.kind(0, 2));
                Check.same("worlds", t, x.worlds());
            }
        }
    }

    private static void checkTimetable(WindowTurns x, int t, int p, int q) {
        Check.same("number of " + p + " " + q, t, x.kind(0, 2));
        int next = q;
        for (int hour = 0; hour < 30; hour++) {
            boolean isDue = hour == next;
            Check.same("timetable " + p + " " + q + " in " + hour, isDue ? 1 : 0, x.passes(0, t, hour));
            next += isDue ? p : 0;
        }
        Check.same("ahead of 0", -1, x.passes(0, t, -1));
        Check.same("behind 29", -1, x.passes(0, t, 30));
    }

    // "no such ones" of each call, far away
    private static void numbersFar() {
        for (int no : FAR) {
            WindowTurns x = Check.of(TRUTHS + "person a;person b;person f;person g;");
            x.tell(0, 0, 4);
            farStates(x, no);
            farWorlds(x, no);
            Check.same("nothing was told", 1, x.count(2));
        }
    }

    private static void farStates(WindowTurns x, int no) {
        Check.noSuch("kind " + no, () -> x.kind(no, 0));
        Check.noSuch("kind, what " + no, () -> x.kind(0, no));
        Check.same("passes, kind " + no, -1, x.passes(no, 0, 0));
        Check.same("passes, timetable " + no, -1, x.passes(0, no, 0));
        Check.same("passes, hour " + no, -1, x.passes(0, 0, no));
        Check.same("may " + no, -1, x.may(no));
        Check.same("tell, person " + no, -1, x.tell(no, 0, 0));
        Check.same("tell, hour " + no, -1, x.tell(0, no, 0));
        Check.same("tell, kinds " + no, -1, x.tell(0, 0, no));
        Check.noSuch("telling " + no, () -> x.telling(no, 0));
        Check.noSuch("telling, what " + no, () -> x.telling(0, no));
        Check.same("said " + no, -1, x.said(no));
        Check.same("ended " + no, -1, x.ended(no));
        Check.same("turn " + no, -1, x.turn(no));
        Check.same("content " + no, -1, x.content(no));
        Check.same("image " + no, false, x.image(no));
        Check.same("restore " + no, false, x.restore(no));
        Check.same("count " + no, -1, x.count(no));
        Check.feed(x, "\0\0\0\0");
        Check.same("drawn " + no, false, x.drawn(no, 1));
        Check.feed(x, "\0");
        Check.same("table " + no, -1, x.table(no));
        Check.feed(x, "");
    }

    private static void farWorlds(WindowTurns x, int no) {
        Check.same("worldsOf, kind " + no, -1, x.worldsOf(no, 0));
        Check.same("worldsOf, timetable " + no, -1, x.worldsOf(0, no));
        Check.same("waysOf, person " + no, -1, x.waysOf(no, 0));
        Check.same("waysOf, way " + no, -1, x.waysOf(0, no));
        Check.same("sure, kind " + no, -1, x.sure(no, 0));
        Check.same("sure, hour " + no, -1, x.sure(0, no));
        Check.noSuch("odds, kind " + no, () -> x.odds(no, 0, 0));
        Check.noSuch("odds, hour " + no, () -> x.odds(0, no, 0));
        Check.noSuch("odds, what " + no, () -> x.odds(0, 0, no));
        Check.same("hours, kind " + no, -1, x.hours(no, 0));
        Check.same("hours, what " + no, -1, x.hours(0, no));
        Check.same("both, k " + no, -1, x.both(no, 0, 0));
        Check.same("both, l " + no, -1, x.both(0, no, 0));
        Check.same("both, hour " + no, -1, x.both(0, 0, no));
        Check.noSuch("bet, kind " + no, () -> x.bet(no, 0, 0));
        Check.noSuch("bet, hour " + no, () -> x.bet(0, no, 0));
        Check.noSuch("bet, what " + no, () -> x.bet(0, 0, no));
        Check.same("lying " + no, -1, x.lying(no));
        Check.same("liarSet " + no, no == -1 ? 1 : -1, x.liarSet(no));
        Check.same("wouldTell, person " + no, -1, x.wouldTell(no, 0, 0));
        Check.same("wouldTell, hour " + no, -1, x.wouldTell(0, no, 0));
        Check.same("wouldTell, kinds " + no, -1, x.wouldTell(0, 0, no));
        Check.same("left, person " + no, -1, x.left(no, 0));
        Check.same("left, hour " + no, -1, x.left(0, no));
    }

    // "nothing passes ahead of 0"
    private static void nothingAheadOfZero() {
        WindowTurns x = Check.of("kind c 1 1 by 1 0;person a late;person b true;");
        Check.same("he tells nothing of 0", 1, x.wouldTell(0, 0, 0));
        Check.same("he does not tell it of 0", 0, x.wouldTell(0, 0, 1));
        Check.same("he tells it of 1", 1, x.wouldTell(0, 1, 1));
        Check.same("and of 29", 1, x.wouldTell(0, 29, 1));
        Check.same("the other tells it of 0", 1, x.wouldTell(1, 0, 1));
        x.tell(0, 0, 0);
        Check.same("that fits", 1, x.worlds());
        x.tell(0, 0, 1);
        Check.same("that does not", 0, x.worlds());
        boolean isZero = false;
        for (int seed = 0; seed < 2000 && !isZero; seed++) {
            WindowTurns y = Check.of("kind c 1 1 by 1 0;person a;");
            Check.drawn(y, 1, seed, 1);
            isZero = y.telling(0, 1) == 0;
            Check.same("drawn of " + y.telling(0, 1), isZero ? 0 : 1, y.telling(0, 2));
        }
        Check.same("an hour 0 was drawn", true, isZero);
    }

    // 10: "its number; NONE: there are 40"; 11: "how many are left; NONE: there is none"
    private static void tellingsToForty() {
        WindowTurns x = Check.of("kind c 1 1;kind d 1 1;kind e 1 1;person a;person b;person f;person g;");
        for (int i = 0; i < 40; i++) {
            Check.same("number", i, x.tell(i % 4, i % 30, i % 8));
        }
        Check.same("41st", -1, x.tell(0, 0, 0));
        Check.same("forty", 40, x.count(2));
        for (int i = 0; i < 40; i++) {
            Check.same("person of " + i, i % 4, x.telling(i, 0));
            Check.same("hour of " + i, i % 30, x.telling(i, 1));
            Check.same("kinds of " + i, i % 8, x.telling(i, 2));
        }
        Check.noSuch("telling 40", () -> x.telling(40, 0));
        Check.same("39 are left", 39, x.untell());
        Check.noSuch("telling 39", () -> x.telling(39, 0));
        Check.same("one more", 39, x.tell(3, 29, 7));
        Check.same("it is that", 7, x.telling(39, 2));
        Check.same("41st again", -1, x.tell(0, 0, 0));
        for (int left = 39; left >= 0; left--) {
            Check.same("left", left, x.untell());
        }
        Check.same("there is none", -1, x.untell());
        Check.same("none is left", 0, x.count(2));
        Check.noSuch("telling 0", () -> x.telling(0, 0));
        Check.same("first again", 0, x.tell(0, 0, 0));
    }

    // 24: "The first TELLING with which those up to it have no WORLD; NONE: there is none"
    private static void clashAtEach() {
        for (int wrong = 0; wrong <= 40; wrong++) {
            WindowTurns x = Check.of("kind c 1 1;person a true;");
            for (int i = 0; i < 40; i++) {
                x.tell(0, i % 30, i == wrong ? 0 : 1);
            }
            Check.same("clash of 40", wrong == 40 ? -1 : wrong, x.clash());
            Check.same("worlds", wrong == 40 ? 1 : 0, x.worlds());
            while (x.count(2) > wrong) {
                Check.same("clash of fewer", wrong, x.clash());
                x.untell();
            }
            Check.same("no clash", -1, x.clash());
        }
        for (int n = 1; n <= 40; n++) {
            WindowTurns x = Check.of("kind c 1 1;person a true;");
            for (int i = 0; i < n; i++) {
                x.tell(0, 0, i == n - 1 ? 0 : 1);
            }
            Check.same("the last of " + n, n - 1, x.clash());
        }
    }

    /** All persons, hours and sets of a house with each way, by the model that makes each world. */
    private static void everySet() {
        String[] ways = {"true", "late", "hides c", "adds c", "hides d", "adds d", "hides e", "adds e"};
        for (int way = 0; way < 8; way++) {
            String house = "kind c 2 2;kind d 3 3;kind e 1 2;person a " + ways[way] + ";";
            Model model = modelOf(house);
            for (int hour = 0; hour < 30; hour++) {
                WindowTurns x = Check.of(house);
                for (int set = 0; set < 8; set++) {
                    Check.same("of " + hour + " by way " + way + " set " + set, model.wouldTell(0, hour, set),
                            x.wouldTell(0, hour, set));
                }
                Check.same("left of " + hour, model.left(0, hour), x.left(0, hour));
            }
            Check.same("all worlds", 18, Check.of(house).waysOf(0, way));
            tellEachSet(house, model);
        }
    }

    private static void tellEachSet(String house, Model model) {
        for (int hour = 0; hour < 30; hour += 29) {
            WindowTurns x = Check.of(house);
            for (int set = 0; set < 8; set++) {
                x.tell(0, hour, set);
                model.tell(0, hour, set);
                Check.same("worlds by set " + set + " of " + hour, model.worlds(), x.worlds());
                x.untell();
                model.untell();
            }
        }
    }

    // 16, 18: HOURS from 0 to 29
    private static void sureToTheLastHour() {
        WindowTurns x = Check.of("kind c 8 8;kind d 1 1;person a true;");
        x.tell(0, 5, 3);
        Check.same("in 29", 1, x.sure(0, 29));
        Check.same("in 0", 0, x.sure(0, 0));
        Check.same("in 28", 0, x.sure(0, 28));
        Check.same("hours of c", 1 << 5 | 1 << 13 | 1 << 21 | 1 << 29, x.hours(0, 1));
        Check.same("hours of d", (1 << 30) - 1, x.hours(1, 1));
        Check.same("no hours of d", 0, x.hours(1, 0));
        Check.same("no doubt about d", 0, x.hours(1, 2));
        WindowTurns y = Check.of("kind c 8 8;person a true;");
        y.tell(0, 29, 0);
        Check.same("not in 5 and its like", 1 << 5 | 1 << 13 | 1 << 21 | 1 << 29, y.hours(0, 0));
        Check.same("all others in doubt", ((1 << 30) - 1) & ~y.hours(0, 0), y.hours(0, 2));
        WindowTurns z = Check.of("kind c 8 8;person a true;");
        z.tell(0, 0, 1);
        Check.same("0 and its like", 1 | 1 << 8 | 1 << 16 | 1 << 24, z.hours(0, 1));
    }

    // 17: "0 above, 1 below, in least numbers"
    private static void oddsInLeastNumbers() {
        WindowTurns x = Check.of("kind c 1 8;kind d 1 8;kind e 1 8;person a;person b;person f;person g;");
        // One of each period passes in each hour: eight of 36.
        Check.same("above", 2, x.odds(0, 0, 0));
        Check.same("below", 9, x.odds(2, 29, 1));
        WindowTurns y = Check.of("kind c 7 7;person a true;");
        Check.same("above, of a prime", 1, y.odds(0, 0, 0));
        Check.same("below, of a prime", 7, y.odds(0, 0, 1));
        y.tell(0, 0, 1);
        Check.same("surely, above", 1, y.odds(0, 7, 0));
        Check.same("surely, below", 1, y.odds(0, 7, 1));
        Check.same("surely not, above", 0, y.odds(0, 8, 0));
        Check.same("surely not, below", 1, y.odds(0, 8, 1));
    }

    private static void bet(WindowTurns x, int k, int hour, long above, long below) {
        Check.same("bet on " + k + " from " + hour + ", above", above, x.bet(k, hour, 0));
        Check.same("bet on " + k + " from " + hour + ", below", below, x.bet(k, hour, 1));
    }

    // "its next HOUR, from that on (to 29), is ahead of those of all other KINDS (or these have none)"
    private static void betToTheLastHour() {
        WindowTurns alone = Check.of("kind c 8 8;");
        bet(alone, 0, 0, 1, 1);
        bet(alone, 0, 22, 1, 1);
        // From 23 on phase 6 has no more hours: 6, 14, 22, 30.
        bet(alone, 0, 23, 7, 8);
        bet(alone, 0, 26, 1, 2);
        bet(alone, 0, 29, 1, 8);
        WindowTurns x = Check.of("kind c 8 8;kind d 8 8;person a true;");
        x.tell(0, 5, 1);
        x.tell(0, 4, 2);
        bet(x, 0, 0, 0, 1);
        bet(x, 1, 0, 1, 1);
        bet(x, 0, 5, 1, 1);
        bet(x, 1, 5, 0, 1);
        bet(x, 1, 28, 1, 1);
        bet(x, 0, 28, 0, 1);
        // In 29 c alone: d has none any more.
        bet(x, 0, 29, 1, 1);
        bet(x, 1, 29, 0, 1);
        WindowTurns none = Check.of("kind c 8 8;kind d 8 8;person a true;");
        none.tell(0, 0, 1);
        none.tell(0, 1, 2);
        bet(none, 0, 26, 0, 1);
        bet(none, 1, 26, 0, 1);
        bet(none, 1, 25, 1, 1);
        WindowTurns same = Check.of("kind c 8 8;kind d 4 4;person a true;");
        same.tell(0, 5, 3);
        bet(same, 0, 2, 0, 1);
        bet(same, 1, 2, 0, 1);
        bet(same, 1, 6, 1, 1);
        bet(same, 0, 29, 0, 1);
        bet(same, 1, 29, 0, 1);
    }

    private static void betOfThree() {
        String house = "kind c 2 2;kind d 3 3;kind e 2 3;person a true adds c;";
        Model model = modelOf(house);
        WindowTurns x = Check.of(house);
        for (int hour = 0; hour < 30; hour++) {
            for (int k = 0; k < 3; k++) {
                bet(x, k, hour, model.bet(k, hour, 0), model.bet(k, hour, 1));
            }
        }
        model.tell(0, 3, 3);
        x.tell(0, 3, 3);
        for (int k = 0; k < 3; k++) {
            bet(x, k, 27, model.bet(k, 27, 0), model.bet(k, 27, 1));
        }
    }

    // 19: "(one alone, if they are the same)"
    private static void bothOfTheSame() {
        WindowTurns x = Check.of("kind c 2 2;kind d 2 3;kind e 4 4;person a true;");
        long[] passing = {1, 2, 1};
        long[] all = {2, 5, 4};
        for (int k = 0; k < 3; k++) {
            for (int l = 0; l < 3; l++) {
                long due = 1;
                for (int m = 0; m < 3; m++) {
                    due *= m == k || m == l ? passing[m] : all[m];
                }
                Check.same("both " + k + " " + l, due, x.both(k, l, 0));
                Check.same("both " + k + " " + l + " in 29", due, x.both(k, l, 29));
            }
        }
        Check.same("no kind 3", -1, x.both(0, 3, 0));
        Check.same("no kind 3 first", -1, x.both(3, 0, 0));
        Check.same("no kind -1", -1, x.both(-1, -1, 0));
    }

    // 21, 22, 23: of four persons; "rising, as bits"; "NONE: there is none such"
    private static void liarsOfFour() {
        WindowTurns all = Check.of("kind c 2 2;person a late;person b hides c;person f adds c;person g late adds c;");
        Check.same("all lie", 15, all.lying(0));
        Check.same("nobody in none", 0, all.lying(1));
        Check.same("four", 4, all.liars());
        Check.same("one set", 1, all.liarSet(-1));
        Check.same("of all", 15, all.liarSet(0));
        Check.same("no other", -1, all.liarSet(1));
        String house = "kind c 2 2;person a;person b;person f;person g;";
        WindowTurns two = Check.of(house);
        two.tell(0, 0, 1);
        two.tell(1, 0, 0);
        two.tell(2, 2, 1);
        two.tell(3, 2, 0);
        Check.same("two", 2, two.liars());
        Check.same("two sets", 2, two.liarSet(-1));
        Check.same("a and f", 5, two.liarSet(0));
        Check.same("b and g", 10, two.liarSet(1));
        Check.same("no third", -1, two.liarSet(2));
        WindowTurns ones = Check.of("kind c 4 4;person a;person b;person f;person g;");
        // Each two of them fit no timetable, so that three lie.
        for (int a = 0; a < 4; a++) {
            ones.tell(a, a, 1);
        }
        Check.same("three", 3, ones.liars());
        Check.same("four sets", 4, ones.liarSet(-1));
        int[] sets = {7, 11, 13, 14};
        for (int i = 0; i < 4; i++) {
            Check.same("set " + i, sets[i], ones.liarSet(i));
        }
        Check.same("no fifth", -1, ones.liarSet(4));
        WindowTurns nobody = Check.of("kind c 2 2;");
        Check.same("nobody", 0, nobody.liars());
        Check.same("a set of nobody", 1, nobody.liarSet(-1));
        Check.same("which is empty", 0, nobody.liarSet(0));
        Check.same("no persons lie", 0, nobody.lying(0));
        Check.same("nor do they not", 0, nobody.lying(1));
    }

    // 27: "100 times the PERSON and the HOUR", "(of like ones the first PERSON, then the HOUR)"
    private static void nextOfLikeOnes() {
        Check.same("the fourth", 300, Check.of("kind c 2 2;person a hides c;person b hides c;person f adds c;"
                + "person g true;").next());
        Check.same("the third of two like ones", 200, Check.of("kind c 2 2;person a hides c;person b adds c;"
                + "person f true;person g true;").next());
        // In each hour one phase of eight passes: until it's told, each hour is alike; then the next one.
        WindowTurns x = Check.of("kind c 8 8;person a true;");
        for (int hour = 0; hour < 7; hour++) {
            Check.same("next behind " + hour, hour, x.next());
            Check.same("left of it", 7 - hour, x.left(0, hour));
            x.tell(0, hour, 0);
        }
        Check.same("all alike, as one is left", 0, x.next());
        WindowTurns late = Check.of("kind c 8 8;person a late;");
        Check.same("of 0 he tells nothing", 8, late.left(0, 0));
        Check.same("of 1 first", 1, late.next());
        WindowTurns two = Check.of("kind c 2 2;kind d 4 4;person a hides d;person b hides c;");
        Check.same("by d three of four are left, by c two", 0, two.next());
        WindowTurns other = Check.of("kind c 4 4;kind d 2 2;person a hides d;person b hides c;");
        Check.same("b's are less", 100, other.next());
    }
    // NEXT goes by the HOURS 0 to 29 alone: by 30, if it were one, fewer would be left than by any of them
    private static void nextBehindTheLastHour() {
        WindowTurns x = Check.of("kind c 7 8;person a true;");
        // Told not to pass, but for the hours of 7 and 2, 7 and 3, 8 and 4, 8 and 6: no two of these have one together.
        for (int hour : new int[] {0, 1, 5, 7, 8, 11, 13, 15, 18, 19, 21, 25, 26, 27, 29}) {
            x.tell(0, hour, 0);
        }
        Check.same("four worlds", 4, x.worlds());
        Check.same("left of 2", 3, x.left(0, 2));
        Check.same("left of 29", 4, x.left(0, 29));
        Check.same("next", 2, x.next());
    }
}
