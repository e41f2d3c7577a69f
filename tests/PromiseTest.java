/** Each promise by its number: ordinary calls, the edges that the document names, wrong arguments. */
public final class PromiseTest {
    private static final int MIN = Integer.MIN_VALUE;
    private static final int MAX = Integer.MAX_VALUE;
    private static final int[] NO_HOURS = {-1, 30, 31, 32, MIN, MAX};

    private PromiseTest() {
    }

    public static void main(String[] args) {
        newObject();
        feed();
        end();
        house();
        fault();
        kind();
        passes();
        may();
        tellings();
        tell();
        untell();
        telling();
        worlds();
        worldsOf();
        waysOf();
        sure();
        odds();
        hours();
        both();
        bet();
        lying();
        liars();
        clash();
        wouldTell();
        left();
        next();
        table();
        rules();
        turn();
        trade();
        drawn();
        image();
        count();
        Check.end();
    }

    private static void same(String what, long due, long got) {
        Check.same(what, due, got);
    }

    private static void newObject() { // 1
        WindowTurns x = new WindowTurns();
        for (int what = 0; what < 5; what++) {
            same("1: count " + what, 0, x.count(what));
        }
        same("1: fault", 0, x.fault());
        same("1: worlds", 1, x.worlds());
        same("1: turn", -1, x.turn(0));
        same("1: next", -1, x.next());
        same("1: liars", 0, x.liars());
        Check.same("1: restore", false, x.restore(0));
        Check.same("1: end", true, x.end(0));
        Check.same("1: end of more", false, x.end(1));
    }

    private static void feed() { // 2
        WindowTurns x = new WindowTurns();
        same("2: the highest byte first", 20, x.feed(0x70657273, 0x6f6e2061, 0x3b202020, 0x20202020, 0x20202020));
        same("2: read as a text", 1, x.house());
        same("2: one person", 1, x.count(1));
        for (int i = 1; i <= 47; i++) {
            same("2: feed " + i, 20 * i, x.feed(-1, MIN, MAX, 0, 1));
        }
        same("2: more than 940", -1, x.feed(0, 0, 0, 0, 0));
        same("2: none came", 940, x.count(4));
        Check.same("2: one less", true, x.end(921));
        same("2: 941", -1, x.feed(0, 0, 0, 0, 0));
        same("2: still 921", 921, x.count(4));
        Check.same("2: 920", true, x.end(920));
        same("2: 940 just", 940, x.feed(0, 0, 0, 0, 0));
        Check.feed(x, "person a;;");
        x.end(9);
        same("2: bytes come behind", 29, x.feed(0x6c6f6f6b, 0x73206120, 0x393b2020, 0x20202020, 0x20202020));
        same("2: both are read", 2, x.house());
    }

    private static void end() { // 3
        WindowTurns x = new WindowTurns();
        Check.same("3: none of none", true, x.end(0));
        x.feed(1, 2, 3, 4, 5);
        Check.same("3: all", true, x.end(20));
        Check.same("3: too many", false, x.end(21));
        Check.same("3: below 0", false, x.end(-1));
        Check.same("3: the least", false, x.end(MIN));
        Check.same("3: the most", false, x.end(MAX));
        same("3: stays", 20, x.count(4));
        Check.same("3: fewer", true, x.end(7));
        same("3: seven", 7, x.count(4));
        Check.same("3: gone for good", false, x.end(8));
        Check.feed(x, "person a;person b;");
        x.end(9);
        same("3: the first bytes stay", 1, x.house());
    }

    private static void fault(WindowTurns x, String text, int kind, int place) {
        same("4: place in " + text, -1 - place, Check.house(x, text));
        same("5: kind in " + text, kind, x.fault());
        same("4: the tape is empty", 0, x.count(4));
    }

    private static void house() { // 4
        WindowTurns x = new WindowTurns();
        same("4: empty", 0, Check.house(x, ""));
        same("4: blanks", 0, Check.house(x, " \n \n"));
        same("4: lines", 7, Check.house(x, "kind c 1 8 by 08 7;kind dddddd 8 8;person a true late hides c adds dddddd;"
                + "person b;looks a 0;turn 29 b;wants a 29 99;"));
        same("4: no blanks between them", 2, Check.house(x, "kind\nc\n1\n2\nby\n2\n1\n;person a;"));
        same("4: a new house has no turns", 0, x.count(3));
        faultsOfHouse(x);
        manyOfHouse(x);
        longHouse(x);
        same("4: the house stays", 12, x.worlds());
        same("4: persons stay", 1, x.count(1));
        x.tell(0, 3, 1);
        fault(x, "person", 1, 6);
        same("4: tellings stay with a fault", 1, x.count(2));
        same("4: a new house", 0, Check.house(x, ""));
        same("4: has no tellings", 0, x.count(2));
        same("4: nor persons", 0, x.count(1));
    }

    private static void faultsOfHouse(WindowTurns x) {
        fault(x, "\tperson a;", 1, 0);
        fault(x, "person a\r;", 1, 8);
        fault(x, "person a1;", 1, 7);
        fault(x, "person 1a;", 1, 7);
        fault(x, "person abcdefg;", 1, 7);
        fault(x, "person aB;", 1, 8);
        fault(x, "person a.", 1, 8);
        fault(x, "person 7;", 1, 7);
        fault(x, "person ;", 1, 7);
        fault(x, "kind kind 1 2;", 1, 5);
        for (String word : Model.WORDS) {
            fault(x, "person " + word + ";", 1, 7);
            fault(x, "kind " + word + " 1 2;", 1, 5);
            fault(x, "person a;looks " + word + " 1;", 1, 15);
            fault(x, "kind c 1 1;person a hides " + word + ";", 1, 26);
        }
        fault(x, "a;", 1, 0);
        fault(x, "true;", 1, 0);
        fault(x, ";", 1, 0);
        fault(x, "12;", 1, 0);
        fault(x, "person a by;", 1, 9);
        fault(x, "person a a;", 1, 9);
        fault(x, "kind c 1 2 3;", 1, 11);
        fault(x, "kind c 1;", 1, 8);
        fault(x, "kind c a 2;", 1, 7);
        fault(x, "kind c 1 2 by;", 1, 13);
        fault(x, "kind c 1 2 by 1;", 1, 15);
        fault(x, "kind c 1 2 by 1 0 by 1 0;", 1, 18);
        fault(x, "kind c 001 2;", 1, 7);
        fault(x, "kind c 9 9;", 2, 7);
        fault(x, "kind c 00 9;", 2, 7);
        fault(x, "kind c 8 7;", 2, 9);
        fault(x, "kind c 1 9;", 2, 9);
        fault(x, "kind c 3 5 by 2 0;", 2, 14);
        fault(x, "kind c 3 5 by 6 0;", 2, 14);
        fault(x, "kind c 3 5 by 4 4;", 2, 16);
        fault(x, "person a;looks a 30;", 2, 17);
        fault(x, "person a;turn 30 a;", 2, 14);
        fault(x, "person a;turn a 1;", 1, 14);
        fault(x, "person a;wants a 30 1;", 2, 17);
        fault(x, "person a;wants a 1;", 1, 18);
        fault(x, "person a;wants a 1 1 1;", 1, 21);
        fault(x, "kind c 1 2;kind c 1 2;", 3, 16);
        fault(x, "kind c 1 2;person c;", 3, 18);
        fault(x, "person a;person a;", 3, 16);
        fault(x, "kind c 1 2;looks c 1;", 3, 17);
        fault(x, "person a;wants b 1 1;", 3, 15);
        fault(x, "person a;turn 1 b;", 3, 16);
        fault(x, "person a;person b hides a;", 3, 24);
        fault(x, "person a adds a;", 3, 14);
        fault(x, "person a;kind c 9 9;", 3, 9);
        fault(x, "kind c 1 1;person a late true late;", 3, 30);
        fault(x, "kind c 1 1;person a adds c hides c adds c;", 3, 40);
        fault(x, "person a;looks a 1;looks a 01;", 3, 27);
        fault(x, "person a;wants a 1 0;wants a 1 0;", 3, 29);
        fault(x, "person a;person b;turn 1 a;turn 1 b;", 3, 32);
        fault(x, "person a;turn 1 a;turn 1 9", 3, 23);
    }

    private static void manyOfHouse(WindowTurns x) {
        String three = "kind c 1 1;kind d 1 1;kind e 1 1;";
        fault(x, three + "kind", 4, 33);
        fault(x, three + "person a;kind f 1 1;", 3, 42);
        fault(x, "person a;person b;person c;person d;person", 4, 36);
        same("4: four persons", 4, Check.house(x, "person a;person b;person c;person d;"));
        same("4: two told by two", 8, Check.house(x, "person a;person b;looks a 1;looks b 1;wants a 1 1;"
                + "wants b 1 1;turn 1 a;turn 2 a;"));
        same("4: back", 2, Check.house(x, "kind c 1 2;person a;"));
    }

    private static void longHouse(WindowTurns x) {
        String start = "kind c 1 2;person a;"; // 20 bytes
        same("4: 900 bytes", 2, Check.house(x, start + Check.times(" ", 880)));
        fault(x, start + Check.times(" ", 881), 1, 900);
        fault(x, start + Check.times(" ", 920), 1, 900);
        fault(x, start + Check.times(" ", 879) + "?x", 1, 899);
        fault(x, start + Check.times(" ", 880) + "?", 1, 900);
        fault(x, start + Check.times(" ", 870) + "person", 1, 896);
        // A word that begins ahead of byte 900 is read whole, and so is its fault found.
        fault(x, start + Check.times(" ", 878) + "person", 1, 900);
        fault(x, start + Check.times(" ", 878) + "persons", 1, 898);
        fault(x, start + Check.times(" ", 871) + "person abc;", 1, 900);
        fault(x, start + Check.times(" ", 872) + "person abcdefgh", 1, 899);
        fault(x, "kind c 1 2;" + Check.times(" ", 881) + "person c   ", 3, 899);
        same("4: the last byte counts", 3, Check.house(x, start + Check.times(" ", 871) + "person b;"));
        fault(x, start + Check.times(" ", 872) + "person b;", 1, 900);
        same("4: back", 2, Check.house(x, start));
    }

    private static void fault() { // 5
        WindowTurns x = Check.of("person a;");
        same("5: none", 0, x.fault());
        Check.house(x, "person a 1");
        same("5: by house", 1, x.fault());
        x.tell(0, 0, 0);
        x.worlds();
        same("5: stays", 1, x.fault());
        Check.tellings(x, "a 30");
        same("5: by tellings", 2, x.fault());
        Check.rules(x, "b");
        same("5: by rules", 3, x.fault());
        x.image(0);
        Check.rules(x, "");
        same("5: none again", 0, x.fault());
        Check.tellings(x, "a 99");
        x.restore(0);
        same("5: stays over a restore", 2, x.fault());
        Check.tellings(x, "");
        same("5: none by tellings", 0, x.fault());
        Check.house(x, "k");
        Check.house(x, "");
        same("5: none by house", 0, x.fault());
        Check.feed(x, "?");
        x.table(0);
        same("5: a table has none", 0, x.fault());
    }

    private static void kind() { // 6
        WindowTurns x = Check.of("kind c 1 8 by 8 7;kind d 3 5 by 4 2;kind e 8 8;");
        same("6: low", 1, x.kind(0, 0));
        same("6: high", 8, x.kind(0, 1));
        same("6: the last timetable", 35, x.kind(0, 2));
        same("6: all", 36, x.kind(0, 3));
        same("6: low of d", 3, x.kind(1, 0));
        same("6: high of d", 5, x.kind(1, 1));
        same("6: 3 and 2 behind", 5, x.kind(1, 2));
        same("6: 3 and 4 and 5", 12, x.kind(1, 3));
        same("6: not told", -1, x.kind(2, 2));
        same("6: eight", 8, x.kind(2, 3));
        for (int k : new int[] {-1, 3, 4, MIN, MAX}) {
            Check.noSuch("6: kind " + k, () -> x.kind(k, 0));
        }
        for (int what : new int[] {-1, 4, MIN, MAX}) {
            Check.noSuch("6: what " + what, () -> x.kind(0, what));
        }
    }

    private static void passes() { // 7
        WindowTurns x = Check.of("kind c 2 3;kind d 1 1;");
        int[] periods = {2, 2, 3, 3, 3};
        int[] phases = {0, 1, 0, 1, 2};
        for (int t = 0; t < 5; t++) {
            for (int hour = 0; hour < 30; hour++) {
                int due = hour >= phases[t] && (hour - phases[t]) % periods[t] == 0 ? 1 : 0;
                same("7: timetable " + t + " in " + hour, due, x.passes(0, t, hour));
                same("7: always", 1, x.passes(1, 0, hour));
            }
        }
        for (int hour : NO_HOURS) {
            same("7: hour " + hour, -1, x.passes(0, 0, hour));
        }
        for (int no : new int[] {-1, 5, 36, 64, MIN, MAX}) {
            same("7: timetable " + no, -1, x.passes(0, no, 0));
            same("7: kind " + no, -1, x.passes(no, 0, 0));
        }
        same("7: kind 2", -1, x.passes(2, 0, 0));
        same("7: timetable 1 of d", -1, x.passes(1, 1, 0));
    }

    private static void may() { // 8
        WindowTurns x = Check.of("kind c 1 1;kind d 1 1;kind e 1 1;person a;person b true;person s late adds e;"
                + "person t hides c adds d hides e;");
        same("8: all", 255, x.may(0));
        same("8: true", 1, x.may(1));
        same("8: late, adds e", 2 + 128, x.may(2));
        same("8: hides c, adds d, hides e", 4 + 32 + 64, x.may(3));
        same("8: no person 4", -1, x.may(4));
        same("8: no person -1", -1, x.may(-1));
        same("8: without kinds", 3, Check.of("person a;").may(0));
        same("8: with one", 15, Check.of("kind c 1 1;person a;").may(0));
    }

    private static void tellingsFault(WindowTurns x, String text, int kind, int place) {
        same("9: place in " + text, -1 - place, Check.tellings(x, text));
        same("9: kind in " + text, kind, x.fault());
        same("9: the tape is empty", 0, x.count(4));
    }

    private static void tellings() { // 9
        WindowTurns x = Check.of("kind c 1 2;kind d 1 2;person a;person b;");
        same("9: two", 2, Check.tellings(x, "a 1;b 29 d c;"));
        same("9: of nothing", 0, x.telling(0, 2));
        same("9: of both", 3, x.telling(1, 2));
        same("9: the second's person", 1, x.telling(1, 0));
        same("9: the second's hour", 29, x.telling(1, 1));
        tellingsFault(x, "a 1 c c;", 3, 6);
        tellingsFault(x, "a 1 a;", 3, 4);
        tellingsFault(x, "a 1 x;", 3, 4);
        tellingsFault(x, "c 1;", 3, 0);
        tellingsFault(x, "x 1;", 3, 0);
        tellingsFault(x, "kind 1;", 1, 0);
        tellingsFault(x, "a 1 true;", 1, 4);
        tellingsFault(x, "a 30;", 2, 2);
        tellingsFault(x, "a c;", 1, 2);
        tellingsFault(x, "a 1 2;", 1, 4);
        tellingsFault(x, "a 1 c", 1, 5);
        tellingsFault(x, "a 1 c d c;", 3, 8);
        tellingsFault(x, ";", 1, 0);
        tellingsFault(x, "a", 1, 1);
        same("9: they stay", 2, x.count(2));
        String forty = Check.times("a 1;", 40); // 160 bytes
        same("9: forty", 40, Check.tellings(x, forty));
        tellingsFault(x, forty + "b 1;", 4, 160);
        tellingsFault(x, forty + "x 1;", 3, 160);
        tellingsFault(x, forty + "late", 1, 160);
        tellingsFault(x, forty + ";", 1, 160);
        same("9: 600 bytes", 1, Check.tellings(x, "a 1;" + Check.times(" ", 596)));
        tellingsFault(x, "a 1;" + Check.times("\n", 597), 1, 600);
        tellingsFault(x, "a 1 c" + Check.times(" ", 594) + "xx;", 3, 599);
        tellingsFault(x, "a 1 c" + Check.times(" ", 594) + "d;", 1, 600);
        same("9: none", 0, Check.tellings(x, ""));
        same("9: without a house", -1, Check.tellings(new WindowTurns(), "a 1;"));
    }

    private static void tell() { // 10
        WindowTurns x = Check.of("kind c 1 2;kind d 1 2;person a;person b;");
        same("10: the first", 0, x.tell(1, 29, 3));
        same("10: the second", 1, x.tell(0, 0, 0));
        for (int hour : NO_HOURS) {
            same("10: hour " + hour, -1, x.tell(0, hour, 0));
        }
        for (int no : new int[] {-1, 4, 8, MIN, MAX}) {
            same("10: kinds " + no, -1, x.tell(0, 0, no));
            same("10: person " + no, -1, x.tell(no, 0, 0));
        }
        same("10: person 2", -1, x.tell(2, 0, 0));
        same("10: two", 2, x.count(2));
        same("10: person of 0", 1, x.telling(0, 0));
        same("10: hour of 0", 29, x.telling(0, 1));
        same("10: kinds of 0", 3, x.telling(0, 2));
        for (int i = 2; i < 40; i++) {
            same("10: number " + i, i, x.tell(0, 1, 0));
        }
        same("10: there are 40", -1, x.tell(0, 1, 0));
        same("10: forty", 40, x.count(2));
    }

    private static void untell() { // 11
        WindowTurns x = Check.of("kind c 1 2;person a;");
        same("11: there is none", -1, x.untell());
        x.tell(0, 1, 1);
        x.tell(0, 2, 0);
        same("11: one is left", 1, x.untell());
        same("11: the first", 1, x.telling(0, 1));
        same("11: a telling more", 1, x.tell(0, 3, 1));
        same("11: it is that one", 3, x.telling(1, 1));
        same("11: one", 1, x.untell());
        same("11: none", 0, x.untell());
        same("11: no more", -1, x.untell());
        same("11: all worlds again", 12, x.worlds());
    }

    private static void telling() { // 12
        WindowTurns x = Check.of("kind c 1 2;person a;person b;");
        Check.noSuch("12: none there", () -> x.telling(0, 0));
        x.tell(1, 7, 1);
        same("12: person", 1, x.telling(0, 0));
        same("12: hour", 7, x.telling(0, 1));
        same("12: kinds", 1, x.telling(0, 2));
        for (int no : new int[] {-1, 3, MIN, MAX}) {
            Check.noSuch("12: what " + no, () -> x.telling(0, no));
            Check.noSuch("12: telling " + no, () -> x.telling(no, 0));
        }
        Check.noSuch("12: telling 1", () -> x.telling(1, 0));
    }

    private static void worlds() { // 13
        same("13: without kinds", 4, Check.of("person a true;person b late true;person c;person d late;").worlds());
        same("13: the most", 36L * 36 * 36 * 8 * 8 * 8 * 8, Check.of("kind c 1 8;kind d 1 8;kind e 1 8;"
                + "person p;person q;person r;person s;").worlds());
        same("13: without persons", 36 * 3, Check.of("kind c 1 8;kind d 1 2;").worlds());
        WindowTurns x = Check.of("kind c 1 2;person a true;person b late;");
        same("13: all", 3, x.worlds());
        x.tell(0, 0, 1);
        same("13: every hour, or even ones", 2, x.worlds());
        x.tell(1, 1, 1);
        same("13: b tells of hour 0", 2, x.worlds());
        x.tell(1, 2, 0);
        same("13: b tells of hour 1", 1, x.worlds());
        x.tell(1, 0, 0);
        same("13: nothing ahead of 0", 1, x.worlds());
        x.tell(1, 0, 1);
        same("13: and nothing else", 0, x.worlds());
        WindowTurns y = Check.of("kind c 2 2;kind d 2 2;person a hides c adds d;");
        same("13: two ways", 8, y.worlds());
        y.tell(0, 0, 2);
        same("13: hidden c (d even), added d (c odd)", 2 + 2, y.worlds());
        y.tell(0, 1, 0);
        same("13: hidden alone", 2, y.worlds());
    }

    private static void worldsOf() { // 14
        WindowTurns x = Check.of("kind c 1 2;kind d 2 2;person a true late;");
        same("14: all alike", 4, x.worldsOf(0, 0));
        x.tell(0, 1, 3);
        // True: c every or odd hours, d odd ones; late: c every or even hours, d even ones.
        same("14: each hour", 2, x.worldsOf(0, 0));
        same("14: even", 1, x.worldsOf(0, 1));
        same("14: odd", 1, x.worldsOf(0, 2));
        same("14: d even", 2, x.worldsOf(1, 0));
        same("14: no timetable 3", -1, x.worldsOf(0, 3));
        same("14: no timetable -1", -1, x.worldsOf(0, -1));
        same("14: no timetable 64", -1, x.worldsOf(0, 64));
        same("14: no kind 2", -1, x.worldsOf(2, 0));
        same("14: no kind -1", -1, x.worldsOf(-1, 0));
        x.tell(0, 1, 0);
        same("14: no world", 0, x.worldsOf(0, 0));
    }

    private static void waysOf() { // 15
        WindowTurns x = Check.of("kind c 1 2;person a true hides c;person b;");
        same("15: true", 12, x.waysOf(0, 0));
        same("15: may not", 0, x.waysOf(0, 1));
        same("15: hides", 12, x.waysOf(0, 2));
        same("15: adds", 6, x.waysOf(1, 3));
        same("15: no way 4", -1, x.waysOf(0, 4));
        same("15: no way -1", -1, x.waysOf(0, -1));
        same("15: no person 2", -1, x.waysOf(2, 0));
        same("15: no person -1", -1, x.waysOf(-1, 0));
        x.tell(0, 0, 0);
        same("15: true, odd", 4, x.waysOf(0, 0));
        same("15: hides, any", 12, x.waysOf(0, 2));
        x.tell(0, 0, 1);
        same("15: no world", 0, x.waysOf(0, 0));
    }

    private static void sure() { // 16
        WindowTurns x = Check.of("kind c 2 2;kind d 1 1;person a true;");
        same("16: neither", 2, x.sure(0, 0));
        same("16: always", 1, x.sure(1, 17));
        x.tell(0, 4, 3);
        same("16: even", 1, x.sure(0, 28));
        same("16: odd", 0, x.sure(0, 29));
        for (int hour : NO_HOURS) {
            same("16: hour " + hour, -1, x.sure(0, hour));
        }
        same("16: no kind 2", -1, x.sure(2, 0));
        same("16: no kind -1", -1, x.sure(-1, 0));
        x.tell(0, 4, 0);
        same("16: no world", -1, x.sure(0, 0));
    }

    private static void odds() { // 17
        WindowTurns x = Check.of("kind c 2 3;kind d 1 1;person a true;");
        same("17: above", 2, x.odds(0, 0, 0));
        same("17: below", 5, x.odds(0, 0, 1));
        same("17: always, above", 1, x.odds(1, 9, 0));
        same("17: always, below", 1, x.odds(1, 9, 1));
        x.tell(0, 0, 3);
        same("17: even or by threes, above", 1, x.odds(0, 2, 0));
        same("17: even or by threes, below", 2, x.odds(0, 2, 1));
        same("17: never, above", 0, x.odds(0, 1, 0));
        same("17: never, below", 1, x.odds(0, 1, 1));
        for (int hour : NO_HOURS) {
            Check.noSuch("17: hour " + hour, () -> x.odds(0, hour, 0));
        }
        for (int no : new int[] {-1, 2, MIN, MAX}) {
            Check.noSuch("17: kind " + no, () -> x.odds(no, 0, 0));
            Check.noSuch("17: what " + no, () -> x.odds(0, 0, no));
        }
        x.tell(0, 0, 0);
        Check.noSuch("17: no world", () -> x.odds(0, 0, 0));
    }

    private static void hours() { // 18
        WindowTurns x = Check.of("kind c 2 2;kind d 2 4;person a true;");
        int all = (1 << 30) - 1;
        int even = 0x15555555;
        same("18: neither", all, x.hours(0, 2));
        x.tell(0, 4, 1);
        same("18: odd not", all & ~even, x.hours(0, 0));
        same("18: even", even, x.hours(0, 1));
        same("18: none in doubt", 0, x.hours(0, 2));
        x.tell(0, 0, 3);
        x.tell(0, 2, 1);
        // d: in 0, not in 2 and 4: by 3 alone.
        int threes = 0x9249249 & all;
        same("18: by threes", threes, x.hours(1, 1));
        same("18: not by threes", all & ~threes, x.hours(1, 0));
        for (int no : new int[] {-1, 3, MIN, MAX}) {
            same("18: what " + no, -1, x.hours(0, no));
            same("18: kind " + no, -1, x.hours(no, 0));
        }
        same("18: kind 2", -1, x.hours(2, 0));
        x.tell(0, 2, 0);
        same("18: no world", -1, x.hours(0, 0));
    }

    private static void both() { // 19
        WindowTurns x = Check.of("kind c 1 2;kind d 1 3;person a true late;");
        // c passes by two of three, d by three of six; two ways.
        same("19: both", 2 * 3 * 2, x.both(0, 1, 0));
        same("19: told the other way", 2 * 3 * 2, x.both(1, 0, 0));
        same("19: one alone", 2 * 6 * 2, x.both(0, 0, 29));
        same("19: the other alone", 3 * 3 * 2, x.both(1, 1, 29));
        for (int no : new int[] {-1, 2, MIN, MAX}) {
            same("19: k " + no, -1, x.both(no, 0, 0));
            same("19: l " + no, -1, x.both(0, no, 0));
        }
        for (int hour : NO_HOURS) {
            same("19: hour " + hour, -1, x.both(0, 1, hour));
        }
        x.tell(0, 0, 3);
        x.tell(0, 0, 0);
        same("19: no world", 0, x.both(0, 1, 0));
    }

    private static void bet() { // 20
        WindowTurns x = Check.of("kind c 2 2;kind d 3 3;person a true;");
        // From 0: c 0 or 1, d 0, 1 or 2: c ahead in (0,1), (0,2), (1,2); d in (1,0).
        same("20: c, above", 1, x.bet(0, 0, 0));
        same("20: c, below", 2, x.bet(0, 0, 1));
        same("20: d, above", 1, x.bet(1, 0, 0));
        same("20: d, below", 6, x.bet(1, 0, 1));
        // From 29: just c odd (29) and d 2 (29) pass: c alone in two, d alone in one.
        same("20: c from 29, above", 1, x.bet(0, 29, 0));
        same("20: c from 29, below", 3, x.bet(0, 29, 1));
        same("20: d from 29, above", 1, x.bet(1, 29, 0));
        same("20: d from 29, below", 6, x.bet(1, 29, 1));
        x.tell(0, 0, 3);
        same("20: at once, above", 0, x.bet(0, 0, 0));
        same("20: at once, below", 1, x.bet(0, 0, 1));
        same("20: c even ahead of d from 1", 1, x.bet(0, 1, 0));
        for (int hour : NO_HOURS) {
            Check.noSuch("20: hour " + hour, () -> x.bet(0, hour, 0));
        }
        for (int no : new int[] {-1, 2, MIN, MAX}) {
            Check.noSuch("20: kind " + no, () -> x.bet(no, 0, 0));
            Check.noSuch("20: what " + no, () -> x.bet(0, 0, no));
        }
        x.tell(0, 0, 0);
        Check.noSuch("20: no world", () -> x.bet(0, 0, 0));
        WindowTurns three = Check.of("kind c 1 1;kind d 8 8;kind e 8 8;");
        same("20: c ahead of two, above", 49, three.bet(0, 0, 0));
        same("20: c ahead of two, below", 64, three.bet(0, 0, 1));
        same("20: d never", 0, three.bet(1, 0, 0));
    }

    private static void lying() { // 21
        WindowTurns x = Check.of("kind c 2 2;person a true;person b late adds c;person d;");
        same("21: b lies in all", 2, x.lying(0));
        same("21: a in none", 1, x.lying(1));
        x.tell(0, 0, 1);
        same("21: d may or may not", 2, x.lying(0));
        x.tell(2, 2, 0);
        same("21: d lies too", 6, x.lying(0));
        x.untell();
        x.tell(2, 2, 1);
        x.tell(2, 3, 0);
        same("21: d is true", 5, x.lying(1));
        same("21: no what 2", -1, x.lying(2));
        same("21: no what -1", -1, x.lying(-1));
        x.tell(0, 0, 0);
        same("21: no world", -1, x.lying(0));
        same("21: no world in none", -1, x.lying(1));
    }

    private static void liars() { // 22, 23
        WindowTurns x = Check.of("kind c 2 2;person a true late;person b true late;person d true late;");
        same("22: none", 0, x.liars());
        same("23: one set", 1, x.liarSet(-1));
        same("23: of none", 0, x.liarSet(0));
        x.tell(0, 4, 1);
        x.tell(1, 4, 0);
        same("22: one of two", 1, x.liars());
        same("23: two sets", 2, x.liarSet(-1));
        same("23: a", 1, x.liarSet(0));
        same("23: b", 2, x.liarSet(1));
        same("23: no more", -1, x.liarSet(2));
        same("23: below NONE", -1, x.liarSet(-2));
        same("23: the most", -1, x.liarSet(MAX));
        same("23: the least", -1, x.liarSet(MIN));
        x.tell(2, 4, 1);
        same("22: b is against two", 1, x.liars());
        same("23: one set again", 1, x.liarSet(-1));
        same("23: b alone", 2, x.liarSet(0));
        x.tell(0, 4, 0);
        same("22: no world", -1, x.liars());
        same("23: no world", -1, x.liarSet(-1));
        same("23: no world, 0", -1, x.liarSet(0));
        WindowTurns y = Check.of("kind c 2 2;person a;person b late;person d;person e adds c;");
        y.tell(0, 0, 1);
        y.tell(2, 0, 0);
        same("22: b and e and one", 3, y.liars());
        same("23: rising", 2 + 8 + 1, y.liarSet(0));
        same("23: the other", 2 + 8 + 4, y.liarSet(1));
    }

    private static void clash() { // 24
        WindowTurns x = Check.of("kind c 2 2;person a true;person b true;");
        same("24: no tellings", -1, x.clash());
        for (int i = 0; i < 20; i++) {
            x.tell(i % 2, i, (i + 1) % 2);
            same("24: none up to " + i, -1, x.clash());
        }
        for (int i = 20; i < 40; i++) {
            x.tell(0, 0, 0);
            same("24: the first stays", 20, x.clash());
        }
        WindowTurns y = Check.of("kind c 1 1;person a true;");
        y.tell(0, 0, 0);
        same("24: at once", 0, y.clash());
        y.tell(0, 0, 1);
        same("24: still", 0, y.clash());
        y.untell();
        y.untell();
        same("24: gone", -1, y.clash());
    }

    private static void wouldTell() { // 25
        WindowTurns x = Check.of("kind c 2 2;person a true late;person b hides c adds c;");
        same("25: a tells c of 0: true and even", 2, x.wouldTell(0, 0, 1));
        same("25: a tells nothing of 0", 6, x.wouldTell(0, 0, 0));
        same("25: a tells c of 1", 4, x.wouldTell(0, 1, 1));
        same("25: b adds", 4, x.wouldTell(1, 1, 1));
        same("25: b hides", 4, x.wouldTell(1, 1, 0));
        for (int no : new int[] {-1, 2, MIN, MAX}) {
            same("25: person " + no, -1, x.wouldTell(no, 0, 0));
            same("25: kinds " + no, -1, x.wouldTell(0, 0, no));
        }
        for (int hour : NO_HOURS) {
            same("25: hour " + hour, -1, x.wouldTell(0, hour, 0));
        }
        x.tell(0, 0, 1);
        same("25: a is true, c even", 2, x.wouldTell(0, 2, 1));
        x.tell(0, 0, 0);
        same("25: no world", 0, x.wouldTell(0, 2, 1));
    }

    private static void left() { // 26
        WindowTurns x = Check.of("kind c 2 2;person a true late;person b hides c adds c;");
        same("26: of 0", 6, x.left(0, 0));
        same("26: of 1", 4, x.left(0, 1));
        same("26: b", 4, x.left(1, 0));
        same("26: no person 2", -1, x.left(2, 0));
        same("26: no person -1", -1, x.left(-1, 0));
        for (int hour : NO_HOURS) {
            same("26: hour " + hour, -1, x.left(0, hour));
        }
        x.tell(0, 0, 1);
        x.tell(0, 0, 0);
        same("26: no world", 0, x.left(0, 0));
        same("26: no kinds", 2, Check.of("person a;").left(0, 0));
    }

    private static void next() { // 27
        same("27: no persons", -1, Check.of("kind c 1 2;").next());
        same("27: no kinds", 0, Check.of("person a;").next());
        same("27: hour 1 is the first with 4", 1, Check.of("kind c 2 2;person a true late;person b hides c adds c;")
                .next());
        same("27: of like ones the first person", 0, Check.of("kind c 2 2;person a true;person b true;").next());
        same("27: b from hour 0", 100, Check.of("kind c 2 2;person a hides c;person b true;").next());
        WindowTurns x = Check.of("kind c 1 1;person a true;");
        same("27: one world, all alike", 0, x.next());
        x.tell(0, 0, 0);
        same("27: no world", -1, x.next());
    }

    private static void table() { // 28, 29, 30
        WindowTurns x = Check.of("kind c 1 2 by 2 1;kind d 2 2;person a;person b;looks a 1;");
        same("29: ahead of any", -1, x.said(0));
        same("30: ahead of any", -1, x.ended(0));
        same("30: ahead of any, who", -1, x.ended(1));
        same("28: four", 4, Check.table(x, 0, 0, 1));
        same("29: no saying 4", -1, x.said(4));
        same("29: no saying -1", -1, x.said(-1));
        same("29: the last", 0, x.said(3));
        same("30: two are left", 2, x.ended(0));
        same("30: none knows", 0, x.ended(1));
        same("28: no true timetable", -1, Check.table(x, 1, 0));
        same("28: nobody", -1, Check.table(x, 0));
        same("28: one twice", -1, Check.table(x, 0, 0, 0));
        same("28: no person 2", -1, Check.table(x, 0, 0, 2));
        same("28: no person 255", -1, Check.table(x, 0, 255));
        same("28: five", -1, Check.table(x, 0, 0, 1, 0, 1, 0));
        same("28: no kind 2", -1, Check.table(x, 2, 0));
        same("28: no kind -1", -1, Check.table(x, -1, 0));
        Check.feed(x, "\0");
        x.table(9);
        same("28: the tape is empty", 0, x.count(4));
        same("30: as by the latest that was", 2, x.ended(0));
        same("30: no what 2", -1, x.ended(2));
        same("30: no what -1", -1, x.ended(-1));
        hearing();
    }

    /** One who knew nothing learns by what the other says. */
    private static void hearing() {
        // c: each hour (0), even (1), odd (2). a looked in 0, b in 1. Truly odd: a saw nothing and knows.
        WindowTurns x = Check.of("kind c 1 2 by 2 1;person a;person b;looks a 0;looks b 1;");
        same("28: a, b", 4, Check.table(x, 0, 0, 1));
        same("29: a knows", 1, x.said(0));
        same("29: b knows behind a", 1, x.said(1));
        same("29: a again", 1, x.said(2));
        same("30: one is left", 1, x.ended(0));
        same("30: both know", 3, x.ended(1));
        // b first: each hour or odd, he does not know, so that it is not even alone.
        same("28: b, a", 4, Check.table(x, 0, 1, 0));
        same("29: b does not know", 0, x.said(0));
        same("29: a knows behind b", 1, x.said(1));
        same("29: by which b learns nothing", 0, x.said(2));
        same("30: a alone", 1, x.ended(1));
        same("28: b alone", 2, Check.table(x, 0, 1));
        same("30: two", 2, x.ended(0));
        same("30: nobody", 0, x.ended(1));
        same("28: tellings don't count", 0, x.tell(0, 0, 1));
        same("28: as before", 4, Check.table(x, 0, 0, 1));
        x.image(0);
        Check.house(x, "");
        same("29: stays over a house", 1, x.said(0));
        same("30: who knew stays", 3, x.ended(1));
    }

    private static void rulesFault(WindowTurns x, String text, int kind, int place) {
        same("31: place in " + text, -1 - place, Check.rules(x, text));
        same("31: kind in " + text, kind, x.fault());
        same("31: the tape is empty", 0, x.count(4));
    }

    private static void rules() { // 31
        WindowTurns x = Check.of("kind c 1 1;person a;person b;turn 7 b;");
        same("31: two", 2, Check.rules(x, "a 2 11 3;b 0 29 4;"));
        int[] due = {1, -1, 0, -1, 1, 0, -1, -1, 0, -1, -1, 0, 1, -1, -1, -1, 1, -1, -1, -1, 1, -1, -1, -1, 1, -1, -1,
            -1, 1, -1};
        for (int hour = 0; hour < 30; hour++) {
            same("31: turn " + hour, due[hour], x.turn(hour));
        }
        rulesFault(x, "c 1 1 1;", 3, 0);
        rulesFault(x, "x 1 1 1;", 3, 0);
        rulesFault(x, "turn 1 1 1;", 1, 0);
        rulesFault(x, "a 30 30 1;", 2, 2);
        rulesFault(x, "a 7 6 1;", 2, 4);
        rulesFault(x, "a 7 30 1;", 2, 4);
        rulesFault(x, "a 7 8 0;", 2, 6);
        rulesFault(x, "a 7 8 31;", 2, 6);
        rulesFault(x, "a 7 8;", 1, 5);
        rulesFault(x, "a 7 8 1 1;", 1, 8);
        rulesFault(x, "a 0 29 1;b", 1, 10);
        rulesFault(x, "a 0 29 1;;", 1, 9);
        same("31: turns stay", 1, x.turn(0));
        same("31: one hour", 1, Check.rules(x, "b 29 29 30;"));
        same("31: all were nobody's", 1, x.count(3));
        same("31: it is b's", 1, x.turn(29));
        same("31: 300 bytes", 1, Check.rules(x, "a 0 29 30;" + Check.times(" ", 290)));
        rulesFault(x, "a 0 29 30;" + Check.times(" ", 291), 1, 300);
        rulesFault(x, "a 0 29" + Check.times(" ", 293) + "31;", 2, 299);
        rulesFault(x, "a 0 29" + Check.times(" ", 293) + "30;", 1, 300);
        same("31: no lines", 0, Check.rules(x, ""));
        same("31: nobody's turns", 0, x.count(3));
        same("31: many lines", 37, Check.rules(x, Check.times("a 1 9 2;", 37)));
    }

    private static void turn() { // 32, 33
        WindowTurns x = Check.of("person a;person b;turn 0 b;turn 29 a;turn 5 b;wants b 0 99;wants b 5 1;wants b 6 7;"
                + "wants a 0 50;");
        same("32: b's", 1, x.turn(0));
        same("32: a's", 0, x.turn(29));
        same("32: nobody's", -1, x.turn(1));
        for (int hour : NO_HOURS) {
            same("32: hour " + hour, -1, x.turn(hour));
        }
        same("33: b has", 100, x.content(1));
        same("33: a has nothing", 0, x.content(0));
        same("33: no person 2", -1, x.content(2));
        same("33: no person -1", -1, x.content(-1));
        Check.rules(x, "b 6 6 1;");
        same("33: by turns as they are", 7, x.content(1));
    }

    private static void trade() { // 34
        WindowTurns x = Check.of("person a;person b;turn 0 a;turn 1 b;turn 2 b;wants a 1 2;wants a 2 5;wants b 0 1;");
        // 0 and 1 are the first two; then a would have more by 2, where b wants 1 and 2 alike.
        same("34: twice", 2, x.trade());
        same("34: b's", 1, x.turn(0));
        same("34: b's again", 1, x.turn(1));
        same("34: a's", 0, x.turn(2));
        same("34: a has", 5, x.content(0));
        same("34: b has", 1, x.content(1));
        same("34: no more", 0, x.trade());
        WindowTurns like = Check.of("person a;person b;turn 0 a;turn 1 b;wants a 0 4;wants a 1 4;wants b 0 2;wants b 1 2;");
        same("34: no one has more", 0, like.trade());
        WindowTurns less = Check.of("person a;person b;turn 0 a;turn 1 b;wants a 0 1;wants b 0 90;");
        same("34: one would have less", 0, less.trade());
        WindowTurns own = Check.of("person a;turn 0 a;turn 1 a;wants a 0 1;wants a 1 9;");
        same("34: one's own", 0, own.trade());
        WindowTurns alone = Check.of("person a;person b;turn 0 a;wants a 1 9;");
        same("34: nobody's hour", 0, alone.trade());
        manyTrades();
    }

    /** Turns and wants, found by trying, by which more than a hundred exchanges are to be had. */
    private static void manyTrades() {
        int[] turns = {1, 3, 0, 2, 2, 0, 0, 0, 3, 3, 1, 1, 1, 1, 1, 0, 1, 2, 3, 3, 0, 0, 0, 0, 0, 3, 0, 3, 0, 0};
        int[][] wants = {
            {3, 57, 52, 65, 44, 41, 33, 24, 18, 17, 58, 97, 64, 76, 83, 0, 8, 5, 80, 85, 4, 0, 0, 14, 0, 73, 0, 84, 5, 4},
            {0, 0, 0, 68, 0, 0, 0, 0, 0, 0, 0, 0, 68, 0, 0, 0, 0, 0, 0, 0, 0, 0, 0, 0, 0, 0, 0, 2, 0, 0},
            {3, 4, 0, 25, 0, 0, 0, 0, 0, 0, 28, 43, 28, 75, 0, 13, 0, 0, 68, 8, 0, 82, 91, 0, 97, 0, 0, 0, 44, 81},
            {3, 0, 0, 15, 0, 0, 0, 0, 0, 1, 28, 12, 24, 9, 6, 69, 66, 48, 7, 0, 43, 0, 32, 35, 30, 3, 92, 11, 94, 99},
        };
        StringBuilder house = new StringBuilder("person a;person b;person c;person d;");
        StringBuilder rules = new StringBuilder();
        for (int hour = 0; hour < 30; hour++) {
            for (int a = 0; a < 4; a++) {
                if (wants[a][hour] > 0) {
                    house.append("wants ").append("abcd".charAt(a)).append(' ').append(hour).append(' ')
                            .append(wants[a][hour]).append(';');
                }
            }
            rules.append("abcd".charAt(turns[hour])).append(' ').append(hour).append(' ').append(hour).append(" 1;");
        }
        WindowTurns x = Check.of(house.toString());
        same("34: each hour's turn", 30, Check.rules(x, rules.toString()));
        same("34: a hundred at most", 100, x.trade());
        same("34: the rest", 68, x.trade());
        same("34: no more of them", 0, x.trade());
    }

    private static void drawn() { // 35
        WindowTurns x = Check.of("kind c 2 2 by 2 1;kind d 3 3 by 3 0;person a;person b late true;person e;");
        Check.same("35: drawn", true, Check.drawn(x, 40, -77, 0, 1, 5));
        same("35: forty", 40, x.count(2));
        int seed = -77;
        for (int i = 0; i < 40; i++) {
            seed = seed * 1103515245 + 12345;
            int a = (seed >>> 8) % 3;
            seed = seed * 1103515245 + 12345;
            int hour = (seed >>> 8) % 30;
            int of = a == 1 ? hour - 1 : hour;
            int kinds = (of >= 0 && of % 2 == 1 ? 1 : 0) | (of >= 0 && of % 3 == 0 || a == 2 ? 2 : 0);
            same("35: person " + i, a, x.telling(i, 0));
            same("35: hour " + i, hour, x.telling(i, 1));
            same("35: kinds " + i, kinds, x.telling(i, 2));
        }
        Check.same("35: a way he may not have", true, Check.drawn(x, 1, 5, 0, 3, 0));
        same("35: these are now", 1, x.count(2));
        Check.same("35: no way 6", false, Check.drawn(x, 2, 5, 0, 6, 0));
        Check.same("35: no way 255", false, Check.drawn(x, 2, 5, 255, 0, 0));
        Check.same("35: too few ways", false, Check.drawn(x, 2, 5, 0, 0));
        Check.same("35: too many", false, Check.drawn(x, 2, 5, 0, 0, 0, 0));
        Check.same("35: none", false, Check.drawn(x, 0, 5, 0, 0, 0));
        Check.same("35: 41", false, Check.drawn(x, 41, 5, 0, 0, 0));
        Check.same("35: -1", false, Check.drawn(x, -1, 5, 0, 0, 0));
        same("35: they stay", 1, x.count(2));
        Check.feed(x, "?");
        x.drawn(0, 0);
        same("35: the tape is empty", 0, x.count(4));
        Check.same("35: no true timetable", false, Check.drawn(Check.of("kind c 1 1 by 1 0;kind d 1 1;person a;"), 1, 1,
                0));
        Check.same("35: no persons", false, Check.drawn(Check.of("kind c 1 1 by 1 0;"), 1, 1));
        Check.same("35: no kinds", true, Check.drawn(Check.of("person a;"), 1, 1, 1));
        Check.same("35: no kinds, no way 2", false, Check.drawn(Check.of("person a;"), 1, 1, 2));
    }

    private static void image() { // 36, 37
        WindowTurns x = Check.of("kind c 1 2 by 2 0;person a;looks a 1;turn 3 a;wants a 3 8;");
        Check.same("37: nothing kept", false, x.restore(1));
        x.tell(0, 5, 1);
        Check.same("36: place 0", true, x.image(0));
        Check.same("36: no place 2", false, x.image(2));
        Check.same("36: no place -1", false, x.image(-1));
        Check.same("36: no place 32", false, x.image(32));
        Check.same("37: still nothing in 1", false, x.restore(1));
        Check.rules(x, "a 4 4 1;");
        x.tell(0, 6, 0);
        Check.same("36: place 1", true, x.image(1));
        Check.house(x, "kind d 5 5 by 5 1;kind e 1 1;person b late;person f;");
        Check.table(x, 0, 0);
        Check.tellings(x, "b 99;");
        x.feed(1, 2, 3, 4, 5);
        Check.same("37: restored", true, x.restore(0));
        same("37: the tape stays", 20, x.count(4));
        same("37: the fault stays", 2, x.fault());
        same("37: the table stays", 5, x.ended(0));
        same("37: kinds", 1, x.count(0));
        same("37: persons", 1, x.count(1));
        same("37: tellings", 1, x.count(2));
        same("37: the telling", 5, x.telling(0, 1));
        same("37: low", 1, x.kind(0, 0));
        same("37: truth", 1, x.kind(0, 2));
        same("37: ways", 15, x.may(0));
        same("37: turns", 0, x.turn(3));
        same("37: wants", 8, x.content(0));
        same("37: names", 1, Check.tellings(x, "a 1 c;"));
        same("37: looks", 2, Check.table(x, 0, 0));
        same("37: he saw that it did not pass", 1, x.said(0));
        Check.same("37: the other", true, x.restore(1));
        same("37: two tellings", 2, x.count(2));
        same("37: turns by rules", 0, x.turn(4));
        same("37: not the first's", -1, x.turn(3));
        Check.same("37: once more", true, x.restore(0));
        same("37: as it was", 1, x.count(2));
        same("37: as it was kept", 5, x.telling(0, 1));
        Check.same("37: no place 2", false, x.restore(2));
        Check.same("37: no place -1", false, x.restore(-1));
        Check.same("37: no place 32", false, x.restore(32));
        Check.house(x, "");
        Check.same("36: kept anew", true, x.image(0));
        x.restore(1);
        x.restore(0);
        same("37: the empty house", 0, x.count(1));
    }

    private static void count() { // 38
        WindowTurns x = Check.of("kind c 1 2;kind d 1 1;person a;person b;person e;turn 1 a;turn 2 a;turn 9 b;turn 29 e;");
        x.tell(0, 0, 0);
        x.feed(0, 0, 0, 0, 0);
        same("38: kinds", 2, x.count(0));
        same("38: persons", 3, x.count(1));
        same("38: tellings", 1, x.count(2));
        same("38: hours with turns", 4, x.count(3));
        same("38: bytes", 20, x.count(4));
        for (int what : new int[] {-1, 5, MIN, MAX}) {
            same("38: what " + what, -1, x.count(what));
        }
    }
}
