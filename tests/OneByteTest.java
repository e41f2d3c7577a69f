/** Texts cut at each place, and with each byte left out, changed or put in: held against the model. */
public final class OneByteTest {
    private static final String HOUSE = "kind c 1 8 by 8 7;kind dove 2 3;\nkind e 8 8 by 8 0;person ann true late hides e;"
            + "person bob;person cleo adds c ;person d;looks ann 0;looks d 29;turn 29 bob;turn 0 ann;wants d 9 99;";
    private static final String TELLINGS = "ann 0;bob 29 dove;d 7 c e dove;\ncleo 12 e c ;ann 0;";
    private static final String RULES = "ann 0 29 30;d 12 12 1;\nbob 3 29 10;cleo 0 5 2;";
    // Signs next to those that tokens are made of, and some of each sort.
    private static final String SIGNS = "\0\t\n\r !./0123456789:;<@AZ[`abcdehiknoprstuvwyz{~\u007f\u0080\u00e9\u00ff";
    // An object answers for 512 calls only.
    private static final int TEXTS_OF_AN_OBJECT = 8;

    private enum Sort { HOUSE, TELLINGS, RULES }

    private final String before;
    private final Sort sort;
    private WindowTurns x;
    private Model model;
    private int texts = 0;

    /** A house that is there first, and which sort of text is read then. */
    private OneByteTest(String before, Sort sort) {
        this.before = before;
        this.sort = sort;
    }

    public static void main(String[] args) {
        new OneByteTest("", Sort.HOUSE).changeAll(HOUSE);
        new OneByteTest(HOUSE, Sort.TELLINGS).changeAll(TELLINGS);
        new OneByteTest(HOUSE, Sort.RULES).changeAll(RULES);
        Check.end();
    }

    private void changeAll(String text) {
        read(text);
        for (int i = 0; i <= text.length(); i++) {
            String ahead = text.substring(0, i);
            String behind = text.substring(i);
            String rest = behind.isEmpty() ? "" : behind.substring(1);
            read(ahead);
            read(behind);
            read(ahead + rest);
            for (char sign : SIGNS.toCharArray()) {
                read(ahead + sign);
                read(ahead + sign + rest);
                read(ahead + sign + behind);
            }
        }
    }

    private void begin() {
        x = Check.of(before);
        model = new Model();
        model.tape = before;
        model.house();
    }

    private void read(String text) {
        if (texts % TEXTS_OF_AN_OBJECT == 0) {
            begin();
        }
        texts++;
        Check.feed(x, text);
        model.tape = text;
        switch (sort) {
            case HOUSE -> same("house", text, model.house(), x.house());
            case TELLINGS -> same("tellings", text, model.tellings(), x.tellings());
            default -> same("rules", text, model.rules(), x.rules());
        }
        same("fault", text, model.lastFault, x.fault());
        for (int what = 0; what < 5; what++) {
            same("count " + what, text, model.count(what), x.count(what));
        }
        lookInto(text);
    }

    private void lookInto(String text) {
        for (int i = 0; i < model.now.told.size(); i++) {
            same("kinds of telling " + i, text, model.telling(i, 2), x.telling(i, 2));
        }
        for (int hour = 0; hour < 30 && sort == Sort.RULES; hour++) {
            same("turn " + hour, text, model.turn(hour), x.turn(hour));
        }
        for (int a = 0; a < model.now.persons.size(); a++) {
            same("ways of " + a, text, model.may(a), x.may(a));
        }
        for (int k = 0; k < model.now.kinds.size(); k++) {
            same("truth of " + k, text, model.kind(k, 2), x.kind(k, 2));
        }
    }

    private static void same(String what, String text, long due, long got) {
        Check.same(what + " by " + text, due, got);
    }
}
