import java.util.ArrayList;
import java.util.List;
import java.util.NoSuchElementException;

/** What fault(), said() and ended() told last stays over each call that the document does not name there. */
public final class EdgeToldTest {
    private static final int[] NUMBERS = {Integer.MIN_VALUE, -1, 0, 1, 2, 29, 30, Integer.MAX_VALUE};
    private static final String[] FAULTY = {"?", "a 30", "nobody 1"};
    private static final String[] SOUND = {"", "person a;", "a 1;", "a 1 2 1;"};

    private interface Made {
        void call(WindowTurns x, int a, int b);
    }

    private EdgeToldTest() {
    }

    public static void main(String[] args) {
        faultStays();
        faultIsOfTheLatestText();
        tableStays();
        Check.end();
    }

    /** Calls that read no text; some hold a table. */
    private static List<Made> callsWithoutTexts() {
        return List.of((x, a, b) -> x.feed(a, b, a, b, a), (x, a, b) -> x.end(a), (x, a, b) -> x.fault(),
                (x, a, b) -> x.kind(a, b), (x, a, b) -> x.passes(a, b, a), (x, a, b) -> x.may(a),
                (x, a, b) -> x.tell(a, b, 1), (x, a, b) -> x.untell(), (x, a, b) -> x.telling(a, b),
                (x, a, b) -> x.worlds(), (x, a, b) -> x.worldsOf(a, b), (x, a, b) -> x.waysOf(a, b),
                (x, a, b) -> x.sure(a, b), (x, a, b) -> x.odds(a, b, 0), (x, a, b) -> x.hours(a, b),
                (x, a, b) -> x.both(a, 0, b), (x, a, b) -> x.bet(a, b, 1), (x, a, b) -> x.lying(a),
                (x, a, b) -> x.liars(), (x, a, b) -> x.liarSet(a), (x, a, b) -> x.clash(),
                (x, a, b) -> x.wouldTell(a, b, 1), (x, a, b) -> x.left(a, b), (x, a, b) -> x.next(),
                (x, a, b) -> x.said(a), (x, a, b) -> x.ended(a), (x, a, b) -> x.turn(a), (x, a, b) -> x.content(a),
                (x, a, b) -> x.trade(), (x, a, b) -> Check.drawn(x, a, b, 0, 1, 2),
                (x, a, b) -> Check.drawn(x, a, b, 0), (x, a, b) -> x.image(a), (x, a, b) -> x.restore(a),
                (x, a, b) -> x.count(a), (x, a, b) -> Check.table(x, a, 0, 0));
    }

    /** A house in which each call has something to do: tellings to take back, an image to restore. */
    private static WindowTurns ready() {
        WindowTurns x = Check.of(Check.RICH);
        x.image(0);
        Check.same("tellings are told", 4, Check.tellings(x, "a 1 c;b 2 d;f 3;a 4 d;"));
        x.image(1);
        return x;
    }

    private static void tryCall(Made made, WindowTurns x, int a, int b) {
        try {
            made.call(x, a, b);
        } catch (NoSuchElementException e) {
            return;
        }
    }

    // "The kind of the FAULT of the latest house(), tellings() or rules()"
    private static void faultStays() {
        List<Made> all = new ArrayList<>(callsWithoutTexts());
        all.add((x, a, b) -> Check.table(x, 0, 0, 1));
        all.add((x, a, b) -> Check.table(x, a, 0));
        for (int i = 0; i < all.size(); i++) {
            for (int fault = 0; fault <= FAULTY.length; fault++) {
                WindowTurns x = ready();
                int due = Check.rules(x, fault == 0 ? "" : FAULTY[fault - 1]) == 0 ? 0 : x.fault();
                for (int a : NUMBERS) {
                    for (int b : NUMBERS) {
                        tryCall(all.get(i), x, a, b);
                        Check.same("fault behind call " + i + " of " + a + " " + b, due, x.fault());
                    }
                }
            }
        }
    }

    /** Each of the three behind each of the three, with and without a fault. */
    private static void faultIsOfTheLatestText() {
        String[] faulty = {"person a 1", "a 30", "nobody 1 1 1"};
        for (int first = 0; first < 3; first++) {
            for (int second = 0; second < 3; second++) {
                WindowTurns x = Check.of(Check.RICH);
                read(x, first, faulty[first]);
                Check.same("fault of text " + first, first + 1, x.fault());
                read(x, second, faulty[second]);
                Check.same("fault of text " + second + " behind " + first, second + 1, x.fault());
                read(x, first, "");
                Check.same("none of text " + first, 0, x.fault());
            }
        }
    }

    private static void read(WindowTurns x, int sort, String text) {
        switch (sort) {
            case 0 -> Check.house(x, text);
            case 1 -> Check.tellings(x, text);
            default -> Check.rules(x, text);
        }
    }

    // "By the latest table() that was not NONE"
    private static void tableStays() {
        List<Made> all = new ArrayList<>(callsWithoutTexts());
        for (String text : SOUND) {
            all.add((x, a, b) -> Check.house(x, text));
            all.add((x, a, b) -> Check.tellings(x, text));
            all.add((x, a, b) -> Check.rules(x, text));
        }
        for (String text : FAULTY) {
            all.add((x, a, b) -> Check.house(x, text));
        }
        for (int i = 0; i < all.size(); i++) {
            for (int a : NUMBERS) {
                WindowTurns x = ready();
                Check.same("a table is held", true, Check.table(x, 0, 0, 1) > 0);
                List<Integer> due = tableOf(x);
                for (int b : NUMBERS) {
                    tryCall(all.get(i), x, a, b);
                    Check.same("table behind call " + i + " of " + a + " " + b, true, due.equals(tableOf(x)));
                }
            }
        }
    }

    private static List<Integer> tableOf(WindowTurns x) {
        List<Integer> told = new ArrayList<>(List.of(x.ended(0), x.ended(1)));
        for (int i = -1; i < 20; i++) {
            told.add(x.said(i));
        }
        return told;
    }
}
