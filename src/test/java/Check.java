/** What the tests share: counting wrong answers, and putting a text on a desk's tape. */
final class Check {
    /** Numbers that are too far out for every argument with a range, where adding or taking away one may wrap round. */
    static final int[] FAR = {Integer.MIN_VALUE, Integer.MIN_VALUE + 1, Integer.MAX_VALUE - 1, Integer.MAX_VALUE};

    private int wrong = 0;
    private final String name;

    Check(String name) {
        this.name = name;
    }

    void due(String call, long got, long want) {
        if (got != want) {
            wrong++;
            if (wrong <= 40) {
                System.out.println(name + ": " + call + " answered " + got + ", due is " + want);
            }
        }
    }

    void due(String call, boolean got, boolean want) {
        due(call, got ? 1 : 0, want ? 1 : 0);
    }

    void finish() {
        System.out.println(name + ": " + (wrong == 0 ? "all answers are as due" : wrong + " answers are not as due"));
        if (wrong != 0) {
            System.exit(1);
        }
    }

    /** Reads a text on a new desk, and checks where its last ITEM ends and its STRIKES, written as "tick:bell ..". */
    void reads(String text, int behind, String strikes) {
        CarillonDesk desk = desk(text);
        due("fault(0) of " + text, desk.fault(0), 0);
        due("fault(1) of " + text, desk.fault(1), -1);
        due("count(1) of " + text, desk.count(1), behind);
        String got = strikes(desk);
        due("strikes of " + text + " (" + got + ")", got.equals(strikes), true);
    }

    /** Reads a text on a new desk, and checks its FAULT and the FAULT's place (0 and -1 if it must have none). */
    void faulty(String text, int kind, int place) {
        CarillonDesk desk = new CarillonDesk();
        due("score() without a FAULT of " + text, score(desk, text) != -1, kind == 0);
        due("fault(0) of " + text, desk.fault(0), kind);
        due("fault(1) of " + text, desk.fault(1), place);
    }

    /** The ticks (0) or BELLS (1) of all STRIKES. */
    static int[] row(CarillonDesk desk, int what) {
        int[] row = new int[desk.count(0)];
        for (int k = 0; k < row.length; k++) {
            row[k] = desk.strike(k, what);
        }
        return row;
    }

    /** The STRIKES of the SCORE, written as "tick:bell ..". */
    static String strikes(CarillonDesk desk) {
        StringBuilder all = new StringBuilder();
        for (int k = 0; k < desk.count(0); k++) {
            all.append(k == 0 ? "" : " ").append(desk.strike(k, 0)).append(':').append(desk.strike(k, 1));
        }
        return all.toString();
    }

    /** Who strikes each STRIKE in THE SETTING, one digit each. */
    static String setting(CarillonDesk desk) {
        StringBuilder all = new StringBuilder();
        for (int k = 0; k < desk.count(0); k++) {
            all.append(desk.by(k));
        }
        return all.toString();
    }

    /** A new desk that has read a text. */
    static CarillonDesk desk(String text) {
        CarillonDesk desk = new CarillonDesk();
        score(desk, text);
        return desk;
    }

    /** Puts a text of at most 1000 signs on the tape, which must be empty, and reads it. */
    static int score(CarillonDesk desk, String text) {
        put(desk, text);
        return desk.score();
    }

    static void put(CarillonDesk desk, String text) {
        for (int at = 0; at < text.length(); at += 20) {
            desk.feed(word(text, at), word(text, at + 4), word(text, at + 8), word(text, at + 12), word(text, at + 16));
        }
        desk.end(text.length());
    }

    /** Four bytes of a text as one number for feed(), with blanks behind its end. */
    static int word(String text, int at) {
        int word = 0;
        for (int i = at; i < at + 4; i++) {
            word = word << 8 | (i < text.length() ? text.charAt(i) & 255 : ' ');
        }
        return word;
    }
}
