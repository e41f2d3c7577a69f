import java.util.NoSuchElementException;
import java.util.Random;

/** Wild calls in wild states: nothing is thrown but what the document says, and no answer is out of its bounds. */
public final class WildTest {
    private static final int RUNS = 300;
    private static final int CALLS = 512;
    private static final int[] EDGES = {Integer.MIN_VALUE, Integer.MIN_VALUE + 1, -65, -33, -2, -1, 0, 1, 2, 3, 4, 7, 8,
        29, 30, 31, 32, 33, 35, 36, 39, 40, 41, 63, 64, 65, 255, 256, 939, 940, 941, Integer.MAX_VALUE - 1,
        Integer.MAX_VALUE};
    private static final String FULL = "kind c 1 8 by 8 7;kind d 1 8 by 5 2;kind e 1 8 by 3 1;person a;person b;person f;"
            + "person g;looks a 0;looks a 29;looks b 5;looks f 11;turn 3 a;turn 5 b;wants a 5 9;";

    private WildTest() {
    }

    public static void main(String[] args) {
        for (int run = 0; run < RUNS; run++) {
            wildRun(new Random(run), run);
        }
        fullHouse();
        Check.end();
    }

    private static int number(Random random) {
        return random.nextInt(3) == 0 ? EDGES[random.nextInt(EDGES.length)] : random.nextInt(9) - 1;
    }

    private static void wildRun(Random random, int run) {
        WindowTurns x = new WindowTurns();
        if (run % 2 == 0) {
            Check.house(x, FULL);
        }
        for (int i = 0; i < CALLS; i++) {
            int call = random.nextInt(41);
            int a = number(random);
            int b = number(random);
            int c = number(random);
            boolean mayThrow = call == 4 || call == 10 || call == 15 || call == 18;
            try {
                long answer = call(x, call, a, b, c, random);
                Check.same("run " + run + ", call " + call + " answers from NONE on or a place", true,
                        answer >= -1 || (call == 2 || call == 7 || call == 28) && answer >= -941);
            } catch (NoSuchElementException e) {
                Check.same("run " + run + ", call " + call + " may throw", true, mayThrow);
            }
        }
    }

    private static long call(WindowTurns x, int call, int a, int b, int c, Random random) {
        switch (call) {
            case 0: return x.feed(a, b, c, random.nextInt(), random.nextInt());
            case 1: return x.end(a) ? 1 : 0;
            case 2: return x.house();
            case 3: return x.fault();
            case 4: return x.kind(a, b);
            case 5: return x.passes(a, b, c);
            case 6: return x.may(a);
            case 7: return x.tellings();
            case 8: return x.tell(a, b, c);
            case 9: return x.untell();
            case 10: return x.telling(a, b);
            case 11: return x.worlds();
            case 12: return x.worldsOf(a, b);
            case 13: return x.waysOf(a, b);
            case 14: return x.sure(a, b);
            case 15: return x.odds(a, b, c);
            case 16: return x.hours(a, b);
            case 17: return x.both(a, b, c);
            case 18: return x.bet(a, b, c);
            case 19: return x.lying(a);
            case 20: return x.liars();
            case 21: return x.liarSet(a);
            case 22: return x.clash();
            case 23: return x.wouldTell(a, b, c);
            case 24: return x.left(a, b);
            case 25: return x.next();
            case 26: return x.table(a);
            case 27: return x.said(a);
            case 28: return x.rules();
            case 29: return x.ended(a);
            case 30: return x.turn(a);
            case 31: return x.content(a);
            case 32: return x.trade();
            case 33: return x.drawn(a, b) ? 1 : 0;
            case 34: return x.image(a) ? 1 : 0;
            case 35: return x.restore(a) ? 1 : 0;
            case 36: return x.count(a);
            default: return wildText(x, call, random);
        }
    }

    private static long wildText(WindowTurns x, int call, Random random) {
        byte[] bytes = new byte[random.nextInt(941)];
        random.nextBytes(bytes);
        if (call == 37) {
            String signs = "kindpersotuewalhbyc0123456789;; \n";
            for (int i = 0; i < bytes.length; i++) {
                bytes[i] = (byte) signs.charAt((bytes[i] & 255) % signs.length());
            }
        }
        if (call == 38) {
            Check.feed(x, FULL);
        } else if (call == 39) {
            Check.feed(x, new byte[] {(byte) random.nextInt(5), (byte) random.nextInt(8), 2, 3});
        } else {
            Check.feed(x, bytes);
        }
        return x.count(4);
    }

    /** The greatest house, with tellings that leave as many branches as can be, asked all there is. */
    private static void fullHouse() {
        WindowTurns x = Check.of(FULL);
        long all = x.worlds();
        Check.same("all worlds", 46656L * 4096, all);
        // Of hour 0 one who is late tells nothing, so that more is left of it.
        Check.same("next of all", 1, x.next());
        // Five choices each, all of which go together: as many branches as can be.
        for (int a = 0; a < 4; a++) {
            x.tell(a, 7 + a, 0);
        }
        Check.same("worlds of 625 branches", worldsByPersons(x), x.worlds());
        Check.tellings(x, "a 7;b 8 c;f 9 d;g 10 c d;");
        long sumOfTimes = 0;
        for (int t = 0; t < 36; t++) {
            sumOfTimes += x.worldsOf(1, t);
        }
        Check.same("worlds by timetables", x.worlds(), sumOfTimes);
        long sumOfWays = 0;
        for (int way = 0; way < 8; way++) {
            sumOfWays += x.waysOf(3, way);
        }
        Check.same("worlds by ways", x.worlds(), sumOfWays);
        for (int hour = 0; hour < 30; hour++) {
            long sumOfSets = 0;
            long most = 0;
            for (int set = 0; set < 8; set++) {
                sumOfSets += x.wouldTell(2, hour, set);
                most = Math.max(most, x.wouldTell(2, hour, set));
            }
            Check.same("worlds by what is told of " + hour, x.worlds(), sumOfSets);
            Check.same("left of " + hour, most, x.left(2, hour));
        }
        Check.same("there is a next", true, x.next() >= 0);
        Check.same("worlds by timetables and each person's ways", worldsByPersons(x), x.worlds());
        x.tell(0, 20, 3);
        x.tell(3, 21, 0);
        Check.same("and with more tellings", worldsByPersons(x), x.worlds());
    }

    /** For each three timetables the persons tell without one another: their ways that fit are multiplied. */
    private static long worldsByPersons(WindowTurns x) {
        long sum = 0;
        for (int c = 0; c < 36; c++) {
            for (int d = 0; d < 36; d++) {
                for (int e = 0; e < 36; e++) {
                    long product = 1;
                    for (int a = 0; a < 4; a++) {
                        product *= fittingWays(x, a, new int[] {c, d, e});
                    }
                    sum += product;
                }
            }
        }
        return sum;
    }

    private static int fittingWays(WindowTurns x, int a, int[] times) {
        int found = 0;
        for (int way = 0; way < 8; way++) {
            boolean fits = true;
            for (int i = 0; i < x.count(2) && fits; i++) {
                fits = x.telling(i, 0) != a || x.telling(i, 2) == told(x, way, times, x.telling(i, 1));
            }
            found += fits ? 1 : 0;
        }
        return found;
    }

    private static int told(WindowTurns x, int way, int[] times, int hour) {
        int told = 0;
        for (int k = 0; k < 3; k++) {
            boolean isTold = x.passes(k, times[k], way == 1 ? hour - 1 : hour) == 1;
            isTold = way == 2 + 2 * k ? false : way == 3 + 2 * k || isTold;
            told += isTold ? 1 << k : 0;
        }
        return told;
    }
}
