import java.nio.charset.StandardCharsets;
import java.util.Arrays;
import java.util.NoSuchElementException;

/** What the tests share: feeding texts, comparing answers, counting what is wrong. */
final class Check {
    /** A house with something of each sort of line. */
    static final String RICH = "kind c 1 3 by 2 1;kind d 2 2 by 2 0;person a;person b true late;person f hides c;"
            + "looks a 1;looks a 2;looks b 0;turn 0 a;turn 29 b;turn 4 f;turn 6 f;wants a 29 7;wants a 0 3;wants b 0 2;"
            + "wants f 4 50;wants f 6 49;";

    interface Call {
        long answer();
    }

    private static int done = 0;
    private static int wrong = 0;

    private Check() {
    }

    static void same(String what, long due, long got) {
        done++;
        if (due != got) {
            wrong++;
            System.out.println(what + ": answered " + got + ", due is " + due);
        }
    }

    static void same(String what, boolean due, boolean got) {
        same(what, due ? 1 : 0, got ? 1 : 0);
    }

    static void noSuch(String what, Call call) {
        done++;
        try {
            long got = call.answer();
            wrong++;
            System.out.println(what + ": answered " + got + ", due is NoSuchElementException");
        } catch (NoSuchElementException e) {
            return;
        }
    }

    /** Puts a text on an empty tape. */
    static void feed(WindowTurns x, String text) {
        feed(x, text.getBytes(StandardCharsets.ISO_8859_1));
    }

    static void feed(WindowTurns x, byte[] bytes) {
        x.end(0);
        byte[] whole = Arrays.copyOf(bytes, (bytes.length + 19) / 20 * 20);
        for (int i = 0; i < whole.length; i += 20) {
            x.feed(four(whole, i), four(whole, i + 4), four(whole, i + 8), four(whole, i + 12),
                    four(whole, i + 16));
        }
        x.end(bytes.length);
    }

    private static int four(byte[] bytes, int i) {
        return (bytes[i] & 255) << 24 | (bytes[i + 1] & 255) << 16 | (bytes[i + 2] & 255) << 8
                | bytes[i + 3] & 255;
    }

    static int house(WindowTurns x, String text) {
        feed(x, text);
        return x.house();
    }

    static int tellings(WindowTurns x, String text) {
        feed(x, text);
        return x.tellings();
    }

    static int rules(WindowTurns x, String text) {
        feed(x, text);
        return x.rules();
    }

    static WindowTurns of(String house) {
        WindowTurns x = new WindowTurns();
        if (house(x, house) < 0) {
            throw new IllegalStateException("a test's own house has a fault: " + house);
        }
        return x;
    }

    static int table(WindowTurns x, int k, int... persons) {
        feed(x, bytesOf(persons));
        return x.table(k);
    }

    static boolean drawn(WindowTurns x, int n, int seed, int... ways) {
        feed(x, bytesOf(ways));
        return x.drawn(n, seed);
    }

    private static byte[] bytesOf(int[] numbers) {
        byte[] bytes = new byte[numbers.length];
        for (int i = 0; i < numbers.length; i++) {
            bytes[i] = (byte) numbers[i];
        }
        return bytes;
    }

    static String times(String text, int n) {
        return text.repeat(Math.max(0, n));
    }

    static void end() {
        System.out.println(done + " answers, " + wrong + " wrong");
        if (wrong != 0 || done == 0) {
            System.exit(1);
        }
    }
}
