import java.util.ArrayList;
import java.util.Arrays;
import java.util.List;
import java.util.NoSuchElementException;
import java.util.function.ToLongFunction;

/** What the document says of tables, turns, draws and images, and of what a call leaves as it was. */
public final class EdgeStateTest {
    private static final int MIN = Integer.MIN_VALUE;
    private static final int MAX = Integer.MAX_VALUE;
    private static final String FOUR = "person a;person b;person f;person g;";

    private EdgeStateTest() {
    }

    public static void main(String[] args) {
        tableOfOneToFour();
        tableOfAnEmptyLook();
        tableOfManyRounds();
        tableStays();
        eachRule();
        rulesLineByLine();
        tradesOfTheFirstTwo();
        tradesByLessAndMore();
        drawnOfAllSeeds();
        drawnAsTold();
        imagesOfAll();
        throwsChangeNothing();
        refusalsChangeNothing();
        newHouseKeepsNothing();
        eachCallBehindEachChange();
        calls512();
        Check.end();
    }

    // ---- the table

    /** Holds a table and the same by the model; each saying and the end must agree. */
    private static void sameTable(String house, int k, int... order) {
        WindowTurns x = Check.of(house);
        Model model = new Model();
        model.tape = house;
        model.house();
        StringBuilder tape = new StringBuilder();
        for (int a : order) {
            tape.append((char) a);
        }
        model.tape = tape.toString();
        int sayings = model.table(k);
        Check.same("sayings of " + house, sayings, Check.table(x, k, order));
        for (int i = 0; i < sayings; i++) {
            Check.same("saying " + i + " of " + house, model.said(i), x.said(i));
        }
        Check.same("behind the last", -1, x.said(sayings));
        Check.same("ahead of the first", -1, x.said(-1));
        Check.same("possible", model.ended(0), x.ended(0));
        Check.same("who knows", model.ended(1), x.ended(1));
    }

    // "the tape's bytes being PERSONS as they say (1 to 4, unlike)"
    private static void tableOfOneToFour() {
        String house = "kind c 1 4 by 3 1;" + FOUR + "looks a 1;looks b 4;looks b 2;looks f 7;looks f 0;looks g 3;";
        for (int code = 0; code < 625; code++) {
            int[] order = new int[4];
            int rest = code;
            int length = 0;
            int seen = 0;
            boolean isUnlike = true;
            for (int i = 0; i < 4; i++) {
                int digit = rest % 5;
                rest /= 5;
                if (digit < 4) {
                    order[length++] = digit;
                    isUnlike &= (seen >> digit & 1) == 0;
                    seen |= 1 << digit;
                }
            }
            int[] told = Arrays.copyOf(order, length);
            if (isUnlike && length > 0) {
                sameTable(house, 0, told);
            } else {
                Check.same("not as told", -1, Check.table(Check.of(house), 0, told));
            }
        }
        WindowTurns x = Check.of(house);
        Check.same("four", 8, Check.table(x, 0, 3, 2, 1, 0));
        Check.same("five", -1, Check.table(x, 0, 0, 1, 2, 3, 0));
        Check.same("person 4", -1, Check.table(x, 0, 0, 1, 2, 4));
        Check.same("person 32", -1, Check.table(x, 0, 32));
        Check.same("person 255", -1, Check.table(x, 0, 255));
        Check.same("kind 1", -1, Check.table(x, 1, 0));
        Check.same("kind -1", -1, Check.table(x, -1, 0));
        Check.same("no persons", -1, Check.table(Check.of("kind c 1 1 by 1 0;"), 0, 0));
        WindowTurns third = Check.of("kind c 1 1;kind d 1 1;kind e 8 8 by 8 5;" + FOUR + "looks g 29;");
        Check.same("no true timetable of c", -1, Check.table(third, 0, 0));
        Check.same("of e, two rounds", 2, Check.table(third, 2, 3));
        Check.same("g knows by 29", 1, third.said(0));
        Check.same("all others would not have known", 1, third.ended(0));
        Check.same("g is the fourth", 8, third.ended(1));
    }

    private static void tableOfAnEmptyLook() {
        WindowTurns one = Check.of("kind c 1 1 by 1 0;person a;");
        Check.same("one timetable, one round", 1, Check.table(one, 0, 0));
        Check.same("he knows without a look", 1, one.said(0));
        Check.same("one is left", 1, one.ended(0));
        Check.same("he knows then", 1, one.ended(1));
        WindowTurns all = Check.of("kind c 1 8 by 8 7;person a;person b;");
        Check.same("nobody looked, one round", 2, Check.table(all, 0, 1, 0));
        Check.same("b does not know", 0, all.said(0));
        Check.same("nor a", 0, all.said(1));
        Check.same("all 36", 36, all.ended(0));
        Check.same("nobody knows", 0, all.ended(1));
        StringBuilder looks = new StringBuilder("kind c 1 8 by 5 0;person a;");
        for (int hour = 0; hour < 30; hour++) {
            looks.append("looks a ").append(hour).append(';');
        }
        WindowTurns each = Check.of(looks.toString());
        Check.same("he looked in each, one round", 1, Check.table(each, 0, 0));
        Check.same("he knows", 1, each.said(0));
        Check.same("with each he would have known", 36, each.ended(0));
        Check.same("he knows at the end", 1, each.ended(1));
    }

    // "It ends behind a round that left as many POSSIBLE as were ahead of it"
    private static void tableOfManyRounds() {
        int[][] hours = {{1, 16, 21, 24, 26}, {7, 8, 9, 14, 25}, {0, 7, 9, 19, 20, 29}, {6, 8, 11, 19, 28}};
        StringBuilder house = new StringBuilder("kind c 1 8 by 4 2;" + FOUR);
        for (int a = 0; a < 4; a++) {
            for (int hour : hours[a]) {
                house.append("looks ").append("abfg".charAt(a)).append(' ').append(hour).append(';');
            }
        }
        sameTable(house.toString(), 0, 0, 1, 2, 3);
        WindowTurns x = Check.of(house.toString());
        Check.same("twelve rounds of four", 48, Check.table(x, 0, 0, 1, 2, 3));
        Check.same("the last says something", x.ended(1) >> 3 & 1, x.said(47));
        sameTable(house.toString(), 0, 3, 1, 0, 2);
        for (int truth = 0; truth < 8; truth++) {
            String other = house.toString().replace("by 4 2", "by 8 " + truth);
            sameTable(other, 0, 0, 1, 2, 3);
            sameTable(other, 0, 2, 3);
        }
    }

    // "By the latest table() that was not NONE"; "or ahead of any"; "no TELLINGS, no WAYS count"
    private static void tableStays() {
        WindowTurns x = Check.of("kind c 2 2 by 2 1;kind d 3 3;person a late;person b hides c;looks b 0;");
        Check.same("a table that is none", -1, Check.table(x, 1, 0));
        Check.same("said, ahead of any", -1, x.said(0));
        Check.same("ended, ahead of any", -1, x.ended(0));
        Check.same("who, ahead of any", -1, x.ended(1));
        x.tell(1, 0, 1);
        Check.same("no world", 0, x.worlds());
        Check.same("b says, one round", 1, Check.table(x, 0, 1));
        Check.same("he knows", 1, x.said(0));
        Check.same("two stay", 2, x.ended(0));
        Check.same("b alone", 2, x.ended(1));
        Check.same("a table that is none again", -1, Check.table(x, 0, 1, 1));
        Check.same("said as before", 1, x.said(0));
        Check.same("ended as before", 2, x.ended(0));
        Check.same("a more", 2, Check.table(x, 0, 0, 1));
        Check.same("a does not know", 0, x.said(0));
        Check.same("b knows", 1, x.said(1));
        Check.same("a alone, fewer sayings", 1, Check.table(x, 0, 0));
        Check.same("no more than one", -1, x.said(1));
        Check.same("nobody who said knows", 0, x.ended(1));
        for (int what : new int[] {-1, 2, MIN, MAX}) {
            Check.same("ended of " + what, -1, x.ended(what));
            Check.same("said of " + what, -1, x.said(what));
        }
    }

    // ---- turns

    // "the HOURS FROM, FROM and EVERY .. up to TILL are the PERSON's turns"
    private static void eachRule() {
        WindowTurns x = null;
        int done = 0;
        for (int from = 0; from < 30; from++) {
            for (int till = from; till < 30; till++) {
                for (int every = 1; every <= 30; every++) {
                    if (done % 40 == 0) {
                        x = Check.of("person a;person b;turn 0 a;turn 13 b;");
                    }
                    done++;
                    String text = "b " + from + " " + till + " " + every + ";";
                    Check.same(text, 1, Check.rules(x, text));
                    Check.same("hours by " + text, (till - from) / every + 1, x.count(3));
                    Check.same("the first by " + text, 1, x.turn(from));
                    Check.same("the last by " + text, (till - from) % every == 0 ? 1 : -1, x.turn(till));
                    Check.same("behind the last by " + text, -1, x.turn(till + 1));
                    Check.same("ahead of the first by " + text, -1, x.turn(from - 1));
                }
            }
        }
    }

    // "LINE by LINE", "if they are nobody's yet (all are nobody's at first)"
    private static void rulesLineByLine() {
        WindowTurns x = Check.of("person a;person b;turn 0 a;turn 1 a;turn 2 b;");
        Check.same("two lines", 2, Check.rules(x, "b 1 29 2;a 0 29 1;"));
        for (int hour = 0; hour < 30; hour++) {
            Check.same("turn " + hour, hour % 2, x.turn(hour));
        }
        Check.same("all hours", 30, x.count(3));
        Check.same("the other way", 2, Check.rules(x, "a 0 29 1;b 1 29 2;"));
        Check.same("nothing is b's", 0, x.turn(1));
        Check.same("to 29", 0, x.turn(29));
        Check.same("a fault in the last line", -1 - 15, Check.rules(x, "b 0 29 1;b 5 9 0;"));
        Check.same("turns stay", 0, x.turn(5));
        Check.same("one hour alone", 1, Check.rules(x, "b 29 29 1;"));
        Check.same("nobody's", -1, x.turn(28));
        Check.same("b's", 1, x.turn(29));
        Check.same("one hour with a turn", 1, x.count(3));
        Check.same("hour 0 alone", 1, Check.rules(x, "b 0 0 30;"));
        Check.same("it counts", 1, x.count(3));
        Check.same("no line", 0, Check.rules(x, "\n"));
        Check.same("none counts", 0, x.count(3));
        StringBuilder forty = new StringBuilder("a 3 3 1;");
        for (int i = 0; i < 29; i++) {
            forty.append("b ").append(i % 10).append(" 9 2;");
        }
        Check.same("thirty lines", 30, Check.rules(x, forty.toString()));
        Check.same("the first line's", 0, x.turn(3));
    }

    private static void turnsAre(String what, WindowTurns x, int... due) {
        for (int hour = 0; hour < due.length; hour++) {
            Check.same(what + ": turn " + hour, due[hour], x.turn(hour));
        }
    }

    // "the first two (the lesser first) are"
    private static void tradesOfTheFirstTwo() {
        // 0 and 5 can be exchanged, and 1 and 2: the lesser hour counts first.
        WindowTurns lesser = Check.of("person a;person b;person f;person g;turn 0 a;turn 5 b;turn 1 f;turn 2 g;"
                + "wants a 5 1;wants f 2 1;");
        Check.same("both", 2, lesser.trade());
        turnsAre("both", lesser, 1, 3, 2, -1, -1, 0);
        // 0 with 2 or with 3: the first of them; then nothing is left to gain.
        WindowTurns second = Check.of("person a;person b;person f;turn 0 a;turn 3 f;turn 2 b;wants a 2 1;wants a 3 1;");
        Check.same("once", 1, second.trade());
        turnsAre("the lesser second", second, 1, -1, 0, 2);
        WindowTurns ends = Check.of("person a;person b;turn 0 a;turn 29 b;wants a 29 1;");
        Check.same("0 and 29", 1, ends.trade());
        Check.same("b has 0", 1, ends.turn(0));
        Check.same("a has 29", 0, ends.turn(29));
        WindowTurns last = Check.of("person a;person b;turn 28 a;turn 29 b;wants b 28 1;");
        Check.same("28 and 29", 1, last.trade());
        Check.same("b has 28", 1, last.turn(28));
        // Behind each exchange the first two are looked for anew.
        WindowTurns anew = Check.of("person a;person b;person f;turn 0 f;turn 1 a;turn 2 b;wants a 2 5;wants b 1 1;"
                + "wants a 0 6;wants f 2 3;");
        Check.same("a to 2, then to 0", 2, anew.trade());
        turnsAre("anew", anew, 0, 1, 2);
        Check.same("no more", 0, anew.trade());
        Check.same("without turns", 0, Check.of("person a;person b;wants a 0 1;").trade());
        Check.same("without persons", 0, new WindowTurns().trade());
    }

    // "neither has less and one has more"
    private static void tradesByLessAndMore() {
        for (int wantA = 0; wantA < 4; wantA++) {
            for (int wantB = 0; wantB < 4; wantB++) {
                WindowTurns x = Check.of("person a;person b;turn 7 a;turn 9 b;wants a 7 2;wants b 9 1;wants a 9 " + wantA
                        + ";wants b 7 " + wantB + ";");
                boolean isTraded = wantA >= 2 && wantB >= 1 && wantA + wantB > 3;
                Check.same("a " + wantA + " b " + wantB, isTraded ? 1 : 0, x.trade());
                Check.same("7 then", isTraded ? 1 : 0, x.turn(7));
                Check.same("9 then", isTraded ? 0 : 1, x.turn(9));
                Check.same("a has", isTraded ? wantA : 2, x.content(0));
                Check.same("b has", isTraded ? wantB : 1, x.content(1));
            }
        }
    }

    // ---- draws

    // "x becomes x * 1103515245 + 12345 (an int, wrapping), the draw is (x >>> 8) % n"
    private static void drawnOfAllSeeds() {
        int[] seeds = {0, 1, -1, 2, MIN, MIN + 1, MAX, MAX - 1, 255, 256, 65536, -256, 1103515245, 12345, -12345};
        for (int seed : seeds) {
            for (int persons = 1; persons <= 4; persons++) {
                WindowTurns x = Check.of("kind c 3 3 by 3 1;" + FOUR.substring(0, 9 * persons));
                int[] ways = new int[persons];
                Check.same("drawn by " + seed, true, Check.drawn(x, 40, seed, ways));
                long state = seed;
                for (int i = 0; i < 40; i++) {
                    state = (int) (state * 1103515245L + 12345L);
                    long a = (state & 0xffffffffL) / 256 % persons;
                    state = (int) (state * 1103515245L + 12345L);
                    long hour = (state & 0xffffffffL) / 256 % 30;
                    Check.same("person " + i + " by " + seed, a, x.telling(i, 0));
                    Check.same("hour " + i + " by " + seed, hour, x.telling(i, 1));
                    Check.same("kinds " + i + " by " + seed, hour % 3 == 1 ? 1 : 0, x.telling(i, 2));
                }
            }
        }
    }

    // "(1 to 40)", "the WAY of each PERSON", "a KIND without a true timetable, no PERSONS"
    private static void drawnAsTold() {
        String truths = "kind c 2 2 by 2 0;kind d 3 3 by 3 0;kind e 1 1 by 1 0;";
        for (int n = -2; n <= 43; n++) {
            WindowTurns x = Check.of(truths + "person a;person b;");
            x.tell(1, 8, 2);
            boolean isDue = n >= 1 && n <= 40;
            Check.same("drawn " + n, isDue, Check.drawn(x, n, 77, 0, 0));
            Check.same("tellings of " + n, isDue ? n : 1, x.count(2));
            Check.same("the tape of " + n, 0, x.count(4));
        }
        for (int way = 0; way < 256; way++) {
            WindowTurns x = Check.of(truths + "person a true;");
            Check.same("way " + way, way < 8, Check.drawn(x, 40, way, way));
            for (int i = 0; i < x.count(2); i++) {
                Check.same("kinds by way " + way, told(way, x.telling(i, 1)), x.telling(i, 2));
            }
        }
        for (int given = 0; given <= 6; given++) {
            WindowTurns x = Check.of(truths + FOUR);
            Check.same("ways of " + given, given == 4, Check.drawn(x, 1, 1, new int[given]));
        }
        for (int bad = 0; bad < 4; bad++) {
            int[] ways = {7, 7, 7, 7};
            ways[bad] = 8;
            Check.same("way 8 of " + bad, false, Check.drawn(Check.of(truths + FOUR), 1, 1, ways));
        }
        String[] without = {"kind c 1 1;kind d 1 1 by 1 0;kind e 1 1 by 1 0;",
            "kind c 1 1 by 1 0;kind d 1 1;kind e 1 1 by 1 0;", "kind c 1 1 by 1 0;kind d 1 1 by 1 0;kind e 1 1;"};
        for (String kinds : without) {
            Check.same("a kind without", false, Check.drawn(Check.of(kinds + "person a;"), 1, 1, 0));
        }
        Check.same("no persons", false, Check.drawn(Check.of(truths), 1, 1));
        Check.same("nothing at all", false, Check.drawn(new WindowTurns(), 1, 1));
        Check.same("no kinds", true, Check.drawn(Check.of("person a;person b;"), 40, 1, 0, 1));
        Check.same("no kinds, way 2", false, Check.drawn(Check.of("person a;person b;"), 40, 1, 0, 2));
    }

    /** By c in even hours, d by threes, e in each. */
    private static int told(int way, int hour) {
        int of = way == 1 ? hour - 1 : hour;
        boolean c = of >= 0 && of % 2 == 0;
        boolean d = of >= 0 && of % 3 == 0;
        boolean e = of >= 0;
        c = way != 2 && (c || way == 3);
        d = way != 4 && (d || way == 5);
        e = way != 6 && (e || way == 7);
        return (c ? 1 : 0) + (d ? 2 : 0) + (e ? 4 : 0);
    }

    // ---- what stays

    /** All that can be asked without changing anything. */
    private static List<Long> lookAt(WindowTurns x) {
        List<Long> seen = new ArrayList<>();
        for (int what = 0; what < 5; what++) {
            seen.add((long) x.count(what));
        }
        for (int k = 0; k < x.count(0); k++) {
            for (int what = 0; what < 4; what++) {
                seen.add((long) x.kind(k, what));
            }
        }
        for (int a = 0; a < x.count(1); a++) {
            seen.add((long) x.may(a));
            seen.add((long) x.content(a));
        }
        for (int i = 0; i < x.count(2); i++) {
            for (int what = 0; what < 3; what++) {
                seen.add((long) x.telling(i, what));
            }
        }
        for (int hour = 0; hour < 30; hour++) {
            seen.add((long) x.turn(hour));
        }
        for (int i = 0; i < 9; i++) {
            seen.add((long) x.said(i));
        }
        seen.add((long) x.ended(0));
        seen.add((long) x.ended(1));
        seen.add(x.worlds());
        return seen;
    }

    private static WindowTurns rich() {
        WindowTurns x = Check.of(Check.RICH);
        Check.table(x, 0, 0, 1);
        x.tell(0, 3, 1);
        x.tell(1, 4, 2);
        return x;
    }

    // 36, 37: "HOUSE (with turns as they are) and TELLINGS are kept"; "as kept"; "nothing is kept there"
    private static void imagesOfAll() {
        for (int place = 0; place < 2; place++) {
            WindowTurns x = rich();
            Check.same("nothing is kept in " + place, false, x.restore(place));
            x.trade();
            List<Long> due = lookAt(x);
            Check.same("kept in " + place, true, x.image(place));
            Check.same("nothing is kept in the other", false, x.restore(1 - place));
            for (int change = 0; change < 6; change++) {
                change(x, change);
                Check.same("restored behind change " + change, true, x.restore(place));
                Check.same("as kept, behind change " + change, true, due.equals(lookAt(x)));
            }
            Check.same("looks are kept", 6, Check.table(x, 0, 0, 1));
            Check.same("names are kept", 1, Check.tellings(x, "f 29 d c;"));
            x.image(place);
            Check.same("kept anew: one telling", true, x.restore(place));
            Check.same("it is that", 3, x.telling(0, 2));
        }
        WindowTurns x = new WindowTurns();
        Check.same("an empty house is kept too", true, x.image(1));
        Check.house(x, Check.RICH);
        Check.same("it is restored", true, x.restore(1));
        Check.same("no persons", 0, x.count(1));
        Check.same("no turns", 0, x.count(3));
        Check.same("an empty one was not kept in 0", false, x.restore(0));
        for (int k : new int[] {-1, 2, 3, 32, 33, MIN, MAX}) {
            Check.same("image " + k, false, x.image(k));
            Check.same("restore " + k, false, x.restore(k));
        }
    }

    private static void change(WindowTurns x, int change) {
        switch (change) {
            case 0 -> x.tell(2, 2, 0);
            case 1 -> x.untell();
            case 2 -> Check.house(x, "kind e 8 8 by 8 1;person z;looks z 3;turn 1 z;wants z 1 1;");
            case 3 -> Check.rules(x, "a 1 9 1;");
            case 4 -> Check.tellings(x, "b 2;");
            default -> Check.drawn(x, 9, 9, 0, 1, 2);
        }
    }

    // "A call that throws changes nothing."
    private static void throwsChangeNothing() {
        WindowTurns x = rich();
        x.feed(1, 2, 3, 4, 5);
        List<Long> due = lookAt(x);
        Check.noSuch("kind", () -> x.kind(2, 0));
        Check.noSuch("kind, what", () -> x.kind(0, 4));
        Check.noSuch("telling", () -> x.telling(2, 0));
        Check.noSuch("telling, what", () -> x.telling(0, 3));
        Check.noSuch("odds", () -> x.odds(0, 30, 0));
        Check.noSuch("bet", () -> x.bet(0, 0, 2));
        Check.same("behind what throws", true, due.equals(lookAt(x)));
        x.tell(0, 3, 0);
        List<Long> none = lookAt(x);
        Check.noSuch("odds, no world", () -> x.odds(0, 0, 0));
        Check.noSuch("bet, no world", () -> x.bet(0, 0, 0));
        Check.same("behind what throws without a world", true, none.equals(lookAt(x)));
        x.untell();
        Check.same("and one telling less", true, due.equals(lookAt(x)));
    }

    private static void refusalsChangeNothing() {
        WindowTurns x = rich();
        List<Long> due = lookAt(x);
        String[] texts = {"person a;kind", "person", "a 30;", "b", "f 1 c c;", "a 1 1 0;", "a 5 4 1;", "?"};
        for (String text : texts) {
            Check.same("house of " + text, true, Check.house(x, text) < 0);
            Check.same("tellings of " + text, true, Check.tellings(x, text) < 0);
            Check.same("rules of " + text, true, Check.rules(x, text) < 0);
        }
        Check.same("tell", -1, x.tell(3, 0, 0) & x.tell(0, 30, 0) & x.tell(0, 0, 4) & x.tell(-1, 0, 0));
        Check.same("table", -1, Check.table(x, 0, 0, 0) & Check.table(x, 0) & Check.table(x, 2, 0));
        Check.same("drawn", false, Check.drawn(x, 0, 1, 0, 0, 0) || Check.drawn(x, 1, 1, 0, 0, 6));
        Check.same("image", false, x.image(2) || x.restore(0) || x.restore(-1));
        Check.same("end", false, x.end(1) || x.end(-1));
        Check.same("behind what is refused", true, due.equals(lookAt(x)));
    }

    // "The tape .. is the HOUSE now"; "A new HOUSE has no TELLINGS"
    private static void newHouseKeepsNothing() {
        String big = "kind c 1 8 by 8 7;kind d 1 8;kind e 7 8;" + FOUR + "looks a 0;looks b 29;looks f 3;looks g 4;"
                + "turn 0 g;turn 1 f;turn 2 b;turn 3 a;wants a 0 9;wants b 1 9;wants a 4 9;wants a 5 8;wants b 4 7;";
        String[] small = {"", "person a;", "kind d 2 2 by 2 1;", "kind d 2 3 by 2 1;person b true;turn 5 b;",
            "kind c 1 2 by 1 0;kind f 1 2 by 2 0;person g true late;person a;turn 4 g;turn 5 a;",
            "kind e 2 2 by 2 0;person a hides e;person b;person f true;turn 4 b;"};
        for (String house : small) {
            WindowTurns fresh = Check.of(house);
            WindowTurns x = Check.of(big);
            for (int a = 0; a < 4; a++) {
                x.tell(a, 7 + a, a);
            }
            x.next();
            x.bet(2, 3, 0);
            Check.same("house of " + house, true, Check.house(x, house) >= 0);
            Check.same("as in a new object: " + house, true, lookAt(fresh).equals(lookAt(x)));
            sameWorlds(house, fresh, x);
            Check.same("turns traded", fresh.trade(), x.trade());
            Check.same("table", Check.table(fresh, 0, 0), Check.table(x, 0, 0));
            Check.same("how it ended", fresh.ended(0), x.ended(0));
            int[] ways = new int[fresh.count(1)];
            Check.same("drawn", Check.drawn(fresh, 40, 5, ways), Check.drawn(x, 40, 5, ways));
            Check.same("as in a new object then: " + house, true, lookAt(fresh).equals(lookAt(x)));
            sameWorlds(house, fresh, x);
        }
    }

    private static void sameWorlds(String house, WindowTurns fresh, WindowTurns x) {
        Check.same("next by " + house, fresh.next(), x.next());
        Check.same("lying by " + house, fresh.lying(0), x.lying(0));
        Check.same("liars by " + house, fresh.liars(), x.liars());
        Check.same("sets by " + house, fresh.liarSet(-1), x.liarSet(-1));
        for (int k = 0; k < 3; k++) {
            int kind = k;
            Check.same("hours of " + k, fresh.hours(k, 1), x.hours(k, 1));
            Check.same("sure of " + k, fresh.sure(k, 29), x.sure(k, 29));
            Check.same("both of " + k, fresh.both(k, 0, 2), x.both(k, 0, 2));
            Check.same("odds of " + k, orThrows(() -> fresh.odds(kind, 4, 0)), orThrows(() -> x.odds(kind, 4, 0)));
            Check.same("bet on " + k, orThrows(() -> fresh.bet(kind, 0, 0)), orThrows(() -> x.bet(kind, 0, 0)));
        }
        for (int a = 0; a < 4; a++) {
            Check.same("ways of " + a, fresh.waysOf(a, 0), x.waysOf(a, 0));
            for (int set = 0; set < 8; set++) {
                Check.same("told by " + a, fresh.wouldTell(a, 5, set), x.wouldTell(a, 5, set));
            }
            Check.same("left by " + a, fresh.left(a, 5), x.left(a, 5));
        }
    }

    private record Asked(String name, ToLongFunction<WindowTurns> got, ToLongFunction<Model> due) { }

    private static long orThrows(Check.Call call) {
        try {
            return call.answer();
        } catch (NoSuchElementException e) {
            return -7;
        }
    }

    // what a call answers goes by what is so now, whichever call came ahead of it
    private static void eachCallBehindEachChange() {
        Asked[] all = {
            new Asked("worlds", WindowTurns::worlds, Model::worlds),
            new Asked("worldsOf", x -> x.worldsOf(0, 4), m -> m.worldsOf(0, 4)),
            new Asked("waysOf", x -> x.waysOf(1, 1), m -> m.waysOf(1, 1)),
            new Asked("sure", x -> x.sure(0, 3), m -> m.sure(0, 3)),
            new Asked("odds", x -> orThrows(() -> x.odds(0, 2, 0)), m -> orThrows(() -> m.odds(0, 2, 0))),
            new Asked("hours", x -> x.hours(0, 1), m -> m.hours(0, 1)),
            new Asked("both", x -> x.both(0, 1, 2), m -> m.both(0, 1, 2)),
            new Asked("bet", x -> orThrows(() -> x.bet(1, 2, 0)), m -> orThrows(() -> m.bet(1, 2, 0))),
            new Asked("lying", x -> x.lying(0), m -> m.lying(0)),
            new Asked("liars", WindowTurns::liars, Model::liars),
            new Asked("liarSet", x -> x.liarSet(0), m -> m.liarSet(0)),
            new Asked("liarSet, how many", x -> x.liarSet(-1), m -> m.liarSet(-1)),
            new Asked("clash", WindowTurns::clash, Model::clash),
            new Asked("wouldTell", x -> x.wouldTell(1, 4, 2), m -> m.wouldTell(1, 4, 2)),
            new Asked("left", x -> x.left(1, 4), m -> m.left(1, 4)),
            new Asked("next", WindowTurns::next, Model::next),
        };
        for (Asked asked : all) {
            askBehindChanges(asked);
        }
    }

    private static void askBehindChanges(Asked asked) {
        WindowTurns x = Check.of(Check.RICH);
        Model model = new Model();
        model.tape = Check.RICH;
        model.house();
        int[][] tellings = {{0, 3, 1}, {1, 4, 2}, {2, 3, 1}, {1, 4, 0}};
        for (int[] t : tellings) {
            x.tell(t[0], t[1], t[2]);
            model.tell(t[0], t[1], t[2]);
            same(asked, "a telling", x, model);
        }
        x.untell();
        model.untell();
        same(asked, "one less", x, model);
        x.image(0);
        model.image(0);
        Check.tellings(x, "b 9 c;");
        model.tape = "b 9 c;";
        model.tellings();
        same(asked, "other tellings", x, model);
        x.restore(0);
        model.restore(0);
        same(asked, "a restore", x, model);
        Check.house(x, Check.RICH);
        model.tape = Check.RICH;
        model.house();
        same(asked, "a house", x, model);
    }

    private static void same(Asked asked, String change, WindowTurns x, Model model) {
        long due = asked.due.applyAsLong(model);
        Check.same(asked.name + " behind " + change, due, asked.got.applyAsLong(x));
    }

    // "An object is used for at most 512 calls after it has been made": the last of them answers too
    private static void calls512() {
        WindowTurns x = new WindowTurns();
        x.feed(0x6b696e64, 0x20632031, 0x20323b70, 0x6572736f, 0x6e20613b);
        Check.same("call 2", 2, x.house());
        for (int i = 3; i <= 512; i++) {
            switch (i % 4) {
                case 3 -> Check.same("call " + i, 0, x.tell(0, 4, 1));
                case 0 -> Check.same("call " + i, 7, x.worlds());
                case 1 -> Check.same("call " + i, 0, x.untell());
                default -> Check.same("call " + i, 12, x.worlds());
            }
        }
    }
}
