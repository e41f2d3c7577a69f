/** What the document says of texts, sentence by sentence: just within each boundary and just beyond it. */
public final class EdgeTextTest {
    private static final String THREE = "kind c 1 1;kind d 1 1;kind e 1 1;";

    private EdgeTextTest() {
    }

    public static void main(String[] args) {
        eachByteBetween();
        eachByteAsToken();
        wordsAndNumbers();
        runsOfLettersAndDigits();
        lowAndHigh();
        periodAndPhase();
        hoursAndWants();
        linesToTheirEnd();
        eachOnce();
        namesOfAllSorts();
        kindsAndPersons();
        waysOfPersons();
        leastOfOneToken();
        firstAlongTheText();
        longHouses();
        tellingsLines();
        longTellings();
        rulesLines();
        longRules();
        emptyTexts();
        Check.end();
    }

    /** Lines from 0 on, or else a fault of a kind, less 1 for each byte ahead of it. */
    private static int fault(int place) {
        return -1 - place;
    }

    private static void house(String text, int due, int kind) {
        WindowTurns x = new WindowTurns();
        Check.same("house of " + text, due, Check.house(x, text));
        Check.same("kind of fault in " + text, kind, x.fault());
        Check.same("the tape behind " + text, 0, x.count(4));
    }

    private static void tellings(String house, String text, int due, int kind) {
        WindowTurns x = Check.of(house);
        Check.same("tellings of " + text, due, Check.tellings(x, text));
        Check.same("kind of fault in " + text, kind, x.fault());
        Check.same("the tape behind " + text, 0, x.count(4));
        Check.same("how many there are by " + text, Math.max(0, due), x.count(2));
    }

    private static void rules(String house, String text, int due, int kind) {
        WindowTurns x = Check.of(house);
        Check.same("rules of " + text, due, Check.rules(x, text));
        Check.same("kind of fault in " + text, kind, x.fault());
        Check.same("the tape behind " + text, 0, x.count(4));
    }

    private static boolean isLetter(int sign) {
        return sign >= 97 && sign <= 122;
    }

    private static boolean isDigit(int sign) {
        return sign >= 48 && sign <= 57;
    }

    // "with blanks (32, 10) between them or not"
    private static void eachByteBetween() {
        for (int sign = 0; sign < 256; sign++) {
            String s = String.valueOf((char) sign);
            boolean isBlank = sign == 32 || sign == 10;
            int kind = isBlank ? 0 : 1;
            house("person" + s + "a;", isBlank ? 1 : fault(isLetter(sign) || isDigit(sign) ? 0 : 6), kind);
            house(s + "person a;", isBlank ? 1 : fault(0), kind);
            house("person a;" + s, isBlank ? 1 : fault(9), kind);
            house("person a;" + s + ";", fault(isBlank ? 10 : 9), 1);
        }
    }

    // "WORDS: small letters, 1 to 6; NUMBERS: 1 to 2 digits; ;"
    private static void eachByteAsToken() {
        for (int sign = 0; sign < 256; sign++) {
            String s = String.valueOf((char) sign);
            int behind = sign == 32 || sign == 10 ? 1 : 0;
            house("person " + s + ";", isLetter(sign) ? 1 : fault(7 + behind), isLetter(sign) ? 0 : 1);
            house("person a;looks a " + s + ";", isDigit(sign) ? 2 : fault(17 + behind), isDigit(sign) ? 0 : 1);
            house("person a" + s, sign == ';' ? 1 : fault(isDigit(sign) ? 7 : isLetter(sign) || behind == 1 ? 9 : 8),
                    sign == ';' ? 0 : 1);
        }
    }

    private static void wordsAndNumbers() {
        for (int length = 1; length <= 30; length++) {
            boolean isWord = length <= 6;
            house("person " + Check.times("z", length) + ";", isWord ? 1 : fault(7), isWord ? 0 : 1);
            boolean isNumber = length <= 2;
            house("person a;looks a " + Check.times("0", length) + ";", isNumber ? 2 : fault(17), isNumber ? 0 : 1);
        }
        house("person " + Check.times("a", 800) + ";", fault(7), 1);
        // As numbers of 32 or of 64 bits these would be 1 again.
        house("person a;looks a 4294967297;", fault(17), 1);
        house("person a;looks a 18446744073709551617;", fault(17), 1);
        // The last bytes alone would be a word that is told.
        house("persons a;", fault(0), 1);
        house("aaaaaaaaperson a;", fault(0), 1);
        house("kinds c 1 1;", fault(0), 1);
        house("kin c 1 1;", fault(0), 1);
        house("person azazaz;person zazaza;person a;person z;", 4, 0);
        house("person a;looks a 09;looks a 9;", fault(28), 3);
        house("kind c 01 08 by 08 07;", 1, 0);
    }

    // "A WORD, NUMBER goes on as long as small letters and digits do; what is not as told is no TOKEN"
    private static void runsOfLettersAndDigits() {
        house("person a1;", fault(7), 1);
        house("person 1a;", fault(7), 1);
        house("person a1b;", fault(7), 1);
        house("person1 a;", fault(0), 1);
        house("persona;", fault(0), 1);
        house("kind c 1 2by 1 0;", fault(9), 1);
        house("kind c12;", fault(5), 1);
        house("kind c 1 2 by1 0;", fault(11), 1);
        house("person a;looks a1;", fault(15), 1);
        house("person a;looks a 1x;", fault(17), 1);
        house("person a trueA;", fault(13), 1);
        house("person a true late;", 1, 0);
        house("person a truelate;", fault(9), 1);
        house("person\na\n;\nlooks\na\n1\n;\n", 2, 0);
        tellings("kind c 1 2;person a;", "a 1c;", fault(2), 1);
        tellings("kind c 1 2;person a;", "a1 c;", fault(0), 1);
        rules("person a;", "a 1 2 3b;", fault(6), 1);
    }

    // "LOW 1 to 8, HIGH LOW to 8"
    private static void lowAndHigh() {
        for (int low = 0; low < 100; low++) {
            for (int high = 0; high < 12; high++) {
                boolean isLow = low >= 1 && low <= 8;
                boolean isHigh = high >= low && high <= 8;
                int place = !isLow ? 7 : low < 10 ? 9 : 10;
                house("kind c " + low + " " + high + ";", isLow && isHigh ? 1 : fault(place), isLow && isHigh ? 0 : 2);
            }
        }
        house("kind c 1 99;", fault(9), 2);
    }

    // "PERIOD LOW to HIGH, PHASE 0 to PERIOD less 1"
    private static void periodAndPhase() {
        for (int period = 0; period < 12; period++) {
            for (int phase = 0; phase < 12; phase++) {
                boolean isPeriod = period >= 3 && period <= 6;
                boolean isFine = isPeriod && phase < period;
                int place = !isPeriod ? 14 : 16;
                house("kind c 3 6 by " + period + " " + phase + ";", isFine ? 1 : fault(place), isFine ? 0 : 2);
            }
        }
        house("kind c 1 1 by 1 0;", 1, 0);
        house("kind c 1 1 by 1 1;", fault(16), 2);
        house("kind c 8 8 by 8 7;", 1, 0);
        house("kind c 8 8 by 8 8;", fault(16), 2);
        house("kind c 1 8 by 0 0;", fault(14), 2);
        house("kind c 1 8 by 9 0;", fault(14), 2);
    }

    // "HOUR (0 to 29", "N (0 to 99"
    private static void hoursAndWants() {
        for (int n = 0; n < 100; n++) {
            boolean isHour = n < 30;
            int kind = isHour ? 0 : 2;
            house("person a;looks a " + n + ";", isHour ? 2 : fault(17), kind);
            house("person a;turn " + n + " a;", isHour ? 2 : fault(14), kind);
            house("person a;wants a " + n + " 1;", isHour ? 2 : fault(17), kind);
            house("person a;wants a 0 " + n + ";", 2, 0);
            tellings("person a;", "a " + n + ";", isHour ? 1 : fault(2), kind);
        }
        house("person a;wants a 0 100;", fault(19), 1);
        WindowTurns x = Check.of("person a;turn 0 a;turn 29 a;wants a 0 99;wants a 29 00;");
        Check.same("99 and 0", 99, x.content(0));
    }

    // each LINE has all that is told, and ends with ;
    private static void linesToTheirEnd() {
        String[] whole = {"kind f 1 2", "kind f 1 2 by 1 0", "person b", "person b true", "person b late hides c",
            "looks a 1", "turn 1 a", "wants a 1 1"};
        for (String line : whole) {
            boolean isKind = line.startsWith("kind");
            String start = isKind ? "kind c 1 1;" : "kind c 1 1;person a;";
            int length = start.length() + line.length();
            int lines = isKind ? 2 : 3;
            house(start + line + ";", lines, 0);
            house(start + line, fault(length), 1);
            house(start + line + " ", fault(length + 1), 1);
            house(start + line + " ;", lines, 0);
            house(start + line + ";;", fault(length + 1), 1);
            house(start + line + " kind", fault(length + 1), 1);
            house(start + line + " turn 2 a;", fault(length + 1), 1);
            house(start + line + " 5;", fault(length + 1), 1);
            house(start + line + " x;", fault(length + 1), 1);
            house(start + line + ".", fault(length), 1);
        }
        house("kind c 1 2 kind d 1 2;", fault(11), 1);
        house("person a person b;", fault(9), 1);
        house("person a;looks a 1 looks a 2;", fault(19), 1);
        house("person a;turn 1 a turn 2 a;", fault(18), 1);
        house("person a;wants a 1 1 wants a 2 1;", fault(21), 1);
        house("person a hides;", fault(14), 1);
        house("person a hides", fault(14), 1);
        house("kind c 1 1;person a hides c true adds;", fault(37), 1);
        house("kind c 1 1;person a hides 1;", fault(26), 1);
        house("kind c;", fault(6), 1);
        house("kind ;", fault(5), 1);
        house("kind c 1 1 by;", fault(13), 1);
        house("kind c 1 1 by x;", fault(14), 1);
        house("kind c by 1 0 1 1;", fault(7), 1);
        house("looks;", fault(5), 1);
        house("turn;", fault(4), 1);
        house("turn a 1;", fault(5), 1);
        house("wants;", fault(5), 1);
        house("person a;looks 1 a;", fault(15), 1);
        house("person a;turn 1;", fault(15), 1);
        house("person a;wants a;", fault(16), 1);
    }

    // "each two once", "each HOUR once", "WAYS he may have, each once"
    private static void eachOnce() {
        house("person a;person b;looks a 0;looks b 0;looks a 29;looks b 29;", 6, 0);
        house("person a;person b;looks a 0;looks b 0;looks a 00;", fault(46), 3);
        house("person a;person b;looks a 29;looks b 29;looks b 29;", fault(48), 3);
        house("person a;person b;wants a 0 5;wants b 0 5;wants a 29 0;wants b 29 0;", 6, 0);
        house("person a;wants a 0 0;wants a 0 0;", fault(29), 3);
        house("person a;wants a 29 0;wants a 29 0;", fault(30), 3);
        house("person a;person b;turn 0 a;turn 29 a;turn 1 b;", 5, 0);
        house("person a;turn 0 a;turn 0 a;", fault(23), 3);
        house("person a;person b;turn 29 a;turn 29 b;", fault(33), 3);
        house("person a;looks a 1;wants a 1 1;turn 1 a;", 4, 0);
        house("person a true late true;", fault(19), 3);
        house("person a late late;", fault(14), 3);
        house(THREE + "person a hides c hides d hides e adds c adds d adds e late true;", 4, 0);
        house(THREE + "person a hides c hides d hides e hides c;", fault(72), 3);
        house(THREE + "person a adds e hides e adds e;", fault(62), 3);
        house(THREE + "person a hides c hides d hides e adds c adds d adds e late true true;", fault(97), 3);
        house(THREE + "person a hides c hides d hides e adds c adds d adds e late true adds e;", fault(102), 3);
        house(THREE + "person a hides c hides d hides e adds c adds d adds e late true x;", fault(97), 1);
    }

    // "NAME: a WORD, none of those told here; told once", "a NAME told twice, not told, or of another sort"
    private static void namesOfAllSorts() {
        for (String word : Model.WORDS) {
            int end = word.length();
            house("person " + word + ";", fault(7), 1);
            house("kind " + word + " 1 1;", fault(5), 1);
            house("person a;wants " + word + " 1 1;", fault(15), 1);
            house("person a;turn 1 " + word + ";", fault(16), 1);
            house("person a;looks " + word + " 1;", fault(15), 1);
            house("kind c 1 1;person a adds " + word + ";", fault(25), 1);
            if (end < 6) {
                house("person " + word + "x;", 1, 0);
                house("person x" + word + ";", 1, 0);
            }
            house("person " + word.substring(1) + ";", 1, 0);
            tellings(THREE + "person a;", word + " 1;", fault(0), 1);
            tellings(THREE + "person a;", "a 1 " + word + ";", fault(4), 1);
            rules("person a;", word + " 1 1 1;", fault(0), 1);
        }
        house("kind c 1 1;kind d 1 1;kind c 1 1;", fault(27), 3);
        house("kind c 1 1;kind d 1 1;kind d 1 1;", fault(27), 3);
        house("kind c 1 1;kind d 1 1;person d;", fault(29), 3);
        house("person a;person b;person a;", fault(25), 3);
        house("person a;person b;person b;", fault(25), 3);
        house("person a;person ab;person b;", 3, 0);
        house("looks b 1;person b;", fault(6), 3);
        house("person a;turn 1 b;person b;", fault(16), 3);
        house("kind c 1 1;person a;turn 1 c;", fault(27), 3);
        house("kind c 1 1;person a;wants c 1 1;", fault(26), 3);
        house("kind c 1 1;person a;looks c 1;", fault(26), 3);
        house("kind c 1 1;person a hides d;", fault(26), 3);
        house("kind c 1 1;person a;person b hides a;", fault(35), 3);
        house("kind c 1 1;person a hides a;", fault(26), 3);
    }

    // "3 KINDS, 4 PERSONS at most, numbered from 0 each", "a fourth KIND, a fifth PERSON (at the LINE's first WORD)"
    private static void kindsAndPersons() {
        house(THREE, 3, 0);
        house(THREE + "kind f 1 1;", fault(33), 4);
        house(THREE + "kind", fault(33), 4);
        house(THREE + " kind c 9 9;", fault(34), 4);
        String four = "person p;person q;person r;person s;";
        house(four, 4, 0);
        house(THREE + four, 7, 0);
        house(THREE + four + "person t;", fault(69), 4);
        house(four + "person", fault(36), 4);
        house(four + "person p;", fault(36), 4);
        house(four + "persons", fault(36), 1);
        WindowTurns x = Check.of("kind c 3 4;kind d 5 6;kind e 7 8;person p true;person q late;person r hides c;"
                + "person s adds e;");
        for (int k = 0; k < 3; k++) {
            Check.same("low of kind " + k, 3 + 2 * k, x.kind(k, 0));
            Check.same("high of kind " + k, 4 + 2 * k, x.kind(k, 1));
        }
        int[] ways = {1, 2, 4, 128};
        for (int a = 0; a < 4; a++) {
            Check.same("ways of person " + a, ways[a], x.may(a));
        }
        Check.same("in tellings too", 2, Check.tellings(x, "s 1 e;q 2 d c;"));
        Check.same("the fourth person", 3, x.telling(0, 0));
        Check.same("the third kind", 4, x.telling(0, 2));
        Check.same("the second person", 1, x.telling(1, 0));
        Check.same("the first two kinds", 3, x.telling(1, 2));
    }

    // "WAYS he may have, each once; none told: all"
    private static void waysOfPersons() {
        String[] words = {"true", "late", "hides c", "adds c", "hides d", "adds d", "hides e", "adds e"};
        for (int ways = 0; ways < 256; ways++) {
            StringBuilder line = new StringBuilder("person a");
            for (int way = 7; way >= 0; way--) {
                line.append((ways >> way & 1) == 1 ? " " + words[way] : "");
            }
            Check.same("ways " + ways, ways == 0 ? 255 : ways, Check.of(THREE + line + ";").may(0));
        }
        Check.same("all of no kinds", 3, Check.of("person a;").may(0));
        Check.same("all of one kind", 15, Check.of("kind c 1 1;person a;").may(0));
        Check.same("all of two kinds", 63, Check.of("kind c 1 1;kind d 1 1;person a;").may(0));
    }

    // "of one TOKEN the least"
    private static void leastOfOneToken() {
        house(THREE + "person a;kind f 1 1;", fault(42), 3);
        house("person p;person q;person r;person s;kind c 1 1;", fault(36), 3);
        house("person a;kind", fault(9), 3);
        String forty = Check.times("a 1;", 40);
        tellings("kind c 1 1;person a;", forty + "a 1;", fault(160), 4);
        tellings("kind c 1 1;person a;", forty + "a", fault(160), 4);
        tellings("kind c 1 1;person a;", forty + "x 1;", fault(160), 3);
        tellings("kind c 1 1;person a;", forty + "c 1;", fault(160), 3);
        tellings("kind c 1 1;person a;", forty + "1 a;", fault(160), 1);
        tellings("kind c 1 1;person a;", forty + "toolong;", fault(160), 1);
        tellings("kind c 1 1;person a;", forty + "wants;", fault(160), 1);
    }

    // "the first along the text"
    private static void firstAlongTheText() {
        house("kind c 9 9;kind c;", fault(7), 2);
        house("kind c 1 9;?", fault(9), 2);
        house("person a;looks b 30;", fault(15), 3);
        house("person a;turn 30 b;", fault(14), 2);
        house("person a;wants b 30 100;", fault(15), 3);
        house("person a;wants a 30 100;", fault(17), 2);
        house("person a;turn 1 a;turn 1 b;", fault(23), 3);
        house("person a;person a late late;", fault(16), 3);
        house("kind c 8 7 by 9 9;", fault(9), 2);
        house("kind c 3 4 by 5 5;", fault(14), 2);
        house("person a hides c hides c;", fault(15), 3);
        tellings("kind c 1 1;person a;", "a 30 c c;", fault(2), 2);
        tellings("kind c 1 1;person a;", "b 30;", fault(0), 3);
        tellings("kind c 1 1;person a;", "a 1 c c ?;", fault(6), 3);
        rules("person a;", "b 30 30 31;", fault(0), 3);
        rules("person a;", "a 30 29 31;", fault(2), 2);
        rules("person a;", "a 5 4 31;", fault(4), 2);
        rules("person a;", "a 5 30 0;", fault(4), 2);
    }

    // "A HOUSE is a text of at most 900 bytes", "the most bytes told, if there are more and no FAULT is ahead"
    private static void longHouses() {
        for (int length = 890; length <= 940; length++) {
            boolean fits = length <= 900;
            int due = fits ? 1 : fault(900);
            int kind = fits ? 0 : 1;
            house("person a;" + Check.times(" ", length - 9), due, kind);
            house(Check.times("\n", length - 9) + "person a;", due, kind);
            house("person" + Check.times(" ", length - 8) + "a;", due, kind);
            // Of a text that wants its end, where it ends, but no farther than the most.
            house("person a" + Check.times(" ", length - 8), fault(Math.min(length, 900)), 1);
            house("person" + Check.times(" ", length - 6), fault(Math.min(length, 900)), 1);
            // What comes at 900 or behind it is not looked at.
            boolean isSeen = length <= 900;
            house("person a;" + Check.times(" ", length - 10) + "?", isSeen ? fault(length - 1) : fault(900), 1);
        }
        for (int place = 880; place < 910; place++) {
            // Read whole: a word of seven letters is none, wherever the last byte that counts is.
            String start = "person a;" + Check.times(" ", place - 9);
            house(start + "persons b;", fault(Math.min(place, 900)), 1);
            // Six letters are a word; the name behind it comes in time or not.
            boolean isIn = place + 9 <= 900;
            house(start + "person b;", isIn ? 2 : fault(900), isIn ? 0 : 1);
            house(start + "kind b 1 1;", fault(Math.min(place, 900)), place < 900 ? 3 : 1);
        }
        house("person a;looks a " + Check.times(" ", 882) + "30;", fault(899), 2);
        house("person a;looks a " + Check.times(" ", 883) + "30;", fault(900), 1);
        house("person a;looks a " + Check.times(" ", 882) + "29;", fault(900), 1);
        house("person a;looks a " + Check.times(" ", 882) + "001;", fault(899), 1);
        house("person a;looks a " + Check.times(" ", 882) + "2", fault(900), 1);
    }

    // "{ PERSON HOUR { KIND } ; } (each KIND once in a LINE)", "4 a 41st LINE (at its PERSON)"
    private static void tellingsLines() {
        String house = THREE + "person a;person b;";
        tellings(house, "a 0;b 29;", 2, 0);
        tellings(house, "a 0 c d e;", 1, 0);
        tellings(house, "a 0 e d c;", 1, 0);
        tellings(house, "a 0 c;a 0 c;a 0 c;", 3, 0);
        tellings(house, "a 0 c c;", fault(6), 3);
        tellings(house, "a 0 c d e e;", fault(10), 3);
        tellings(house, "a 0 c d e c;", fault(10), 3);
        tellings(house, "a 0 c d e d e;", fault(10), 3);
        tellings(house, "a 0 c d e 1;", fault(10), 1);
        tellings(house, "a 0 c d e", fault(9), 1);
        tellings(house, "a 0 c d e f;", fault(10), 3);
        tellings(house, "a 0 c d e a;", fault(10), 3);
        tellings(house, "a 0 b;", fault(4), 3);
        tellings(house, "a 0 a;", fault(4), 3);
        tellings(house, "a", fault(1), 1);
        tellings(house, "a ", fault(2), 1);
        tellings(house, "a;", fault(1), 1);
        tellings(house, "a b;", fault(2), 1);
        tellings(house, "0 a;", fault(0), 1);
        tellings(house, "a 0", fault(3), 1);
        tellings(house, "a 0;;", fault(4), 1);
        tellings(house, "a 0;c 0;", fault(4), 3);
        tellings(house, "a 001;", fault(2), 1);
        tellings(house, "f 0;", fault(0), 3);
        tellings("person a;", "a 0;", 1, 0);
        tellings("", "a 0;", fault(0), 3);
        for (int lines = 38; lines <= 43; lines++) {
            boolean fits = lines <= 40;
            tellings(house, Check.times("b 7 c e;", lines), fits ? lines : fault(320), fits ? 0 : 4);
        }
        tellings(house, Check.times("b 7 c e;", 40) + "   a 0;", fault(323), 4);
        tellings(house, Check.times("b 7 c e;", 40) + "  ", 40, 0);
    }

    // "TELLINGS are a text of at most 600 bytes"
    private static void longTellings() {
        String house = "kind c 1 1;person a;";
        for (int length = 590; length <= 612; length++) {
            boolean fits = length <= 600;
            tellings(house, "a 1;" + Check.times(" ", length - 4), fits ? 1 : fault(600), fits ? 0 : 1);
            tellings(house, "a 1" + Check.times(" ", length - 4) + ";", fits ? 1 : fault(600), fits ? 0 : 1);
            tellings(house, "a 1" + Check.times(" ", length - 3), fault(Math.min(600, length)), 1);
            tellings(house, "a 1" + Check.times(" ", length - 4) + "d", fault(Math.min(600, length - 1)),
                    length <= 600 ? 3 : 1);
        }
        tellings(house, "a 1;" + Check.times(" ", 936), fault(600), 1);
        tellings(house, "a " + Check.times(" ", 597) + "30;", fault(599), 2);
        tellings(house, "a " + Check.times(" ", 597) + "100;", fault(599), 1);
        tellings(house, "a " + Check.times(" ", 597) + "29;", fault(600), 1);
        tellings(house, Check.times("a 1;", 40) + Check.times(" ", 439) + "a", fault(599), 4);
        tellings(house, Check.times("a 1;", 40) + Check.times(" ", 440) + "a", fault(600), 1);
    }

    // "FROM 0 to 29, TILL FROM to 29, EVERY 1 to 30", "3 (no such PERSON)"
    private static void rulesLines() {
        for (int n = 0; n < 100; n++) {
            rules("person a;", "a " + n + " 29 1;", n <= 29 ? 1 : fault(2), n <= 29 ? 0 : 2);
            rules("person a;", "a 9 " + n + " 1;", n >= 9 && n <= 29 ? 1 : fault(4), n >= 9 && n <= 29 ? 0 : 2);
            rules("person a;", "a 9 9 " + n + ";", n >= 1 && n <= 30 ? 1 : fault(6), n >= 1 && n <= 30 ? 0 : 2);
        }
        rules("person a;", "a 0 0 30;a 29 29 1;", 2, 0);
        rules("person a;", "b 0 0 1;", fault(0), 3);
        rules("person a;", "a 0 0 1;b 0 0 1;", fault(8), 3);
        rules("kind c 1 1;person a;", "c 0 0 1;", fault(0), 3);
        rules("", "a 0 0 1;", fault(0), 3);
        rules("person a;", "0 0 0 1;", fault(0), 1);
        rules("person a;", ";", fault(0), 1);
        rules("person a;", "a;", fault(1), 1);
        rules("person a;", "a 0;", fault(3), 1);
        rules("person a;", "a 0 0;", fault(5), 1);
        rules("person a;", "a 0 0 1", fault(7), 1);
        rules("person a;", "a 0 0 1 ", fault(8), 1);
        rules("person a;", "a 0 0 1;;", fault(8), 1);
        rules("person a;", "a 0 0 1 a;", fault(8), 1);
        rules("person a;", "a 0 0 1 a 0 0 1;", fault(8), 1);
        rules("person a;", "a 0 0 100;", fault(6), 1);
        rules("person a;", "a a 0 1;", fault(2), 1);
    }

    // "RULES of turns are a text of at most 300 bytes"
    private static void longRules() {
        for (int length = 290; length <= 312; length++) {
            boolean fits = length <= 300;
            rules("person a;", "a 0 9 3;" + Check.times(" ", length - 8), fits ? 1 : fault(300), fits ? 0 : 1);
            rules("person a;", "a 0 9" + Check.times(" ", length - 7) + "3;", fits ? 1 : fault(300), fits ? 0 : 1);
            rules("person a;", "a 0 9" + Check.times(" ", length - 5), fault(Math.min(300, length)), 1);
        }
        rules("person a;", "a 0 9 3;" + Check.times(" ", 932), fault(300), 1);
        rules("person a;", Check.times("a 0 9 3 ;", 33) + " ;", fault(298), 1);
        rules("person a;", Check.times("a 0 9 3 ; ", 30), 30, 0);
        rules("person a;", Check.times("a 0 9 3 ; ", 30) + "a", fault(300), 1);
        rules("person a;", Check.times("a 0 9 3 ; ", 29) + "         b", fault(299), 3);
        rules("person a;", Check.times("a 0 9 3 ; ", 29) + "         abcdefg", fault(299), 1);
        rules("person a;", Check.times("a 0 9 3 ; ", 29) + "         a 0 0 1;", fault(300), 1);
    }

    private static void emptyTexts() {
        for (String blank : new String[] {"", " ", "\n", " \n \n "}) {
            house(blank, 0, 0);
            tellings("person a;", blank, 0, 0);
            rules("person a;", blank, 0, 0);
            tellings("", blank, 0, 0);
            rules("", blank, 0, 0);
        }
        WindowTurns x = Check.of("kind c 1 1;person a;turn 1 a;");
        x.tell(0, 1, 1);
        Check.same("no tellings", 0, Check.tellings(x, ""));
        Check.same("there are none", 0, x.count(2));
        Check.same("no rules", 0, Check.rules(x, ""));
        Check.same("nobody's turn", -1, x.turn(1));
        Check.same("no house", 0, Check.house(x, ""));
        Check.same("no kinds", 0, x.count(0));
        Check.same("no persons", 0, x.count(1));
    }
}
