/** The edges that Terms II and promises 8 to 12 name: each sentence at the last value allowed and the first one not. */
public final class FistsEdgesTest {
    private static final Check CHECK = new Check("FistsEdgesTest");

    public static void main(String[] args) {
        reachAndPriceAtFirst();
        reachRange();
        priceRange();
        refusedFistsDoNothing();
        oneTickLater();
        reachForEachTick();
        ticksSinceItsOwnStrike();
        leftOutMovesNothing();
        firstOneIsFree();
        leftBelowRight();
        priceAgainstWay();
        firstOfTheCheapest();
        costs();
        needs();
        needIsRoundedUp();
        reachStays();
        whoStrikes();
        ways();
        CHECK.finish();
    }

    private static void set(String text, int reach, int price, String by, int cost) {
        CarillonDesk d = Check.desk(text);
        CHECK.due("fists(" + reach + ", " + price + ")", d.fists(reach, price), true);
        told(d, text + " with " + reach + ", " + price, by, cost);
    }

    private static void told(CarillonDesk d, String what, String by, int cost) {
        String got = Check.setting(d);
        CHECK.due("THE SETTING of " + what + " (" + got + ")", got.equals(by), true);
        CHECK.due("cost() of " + what, d.cost(), cost);
        CHECK.due("count(2) of " + what, d.count(2), by.chars().filter(c -> c == '2').count());
    }

    // Terms II: "REACH (.. 4 at first)", "PRICE (.. 100 at first)"
    private static void reachAndPriceAtFirst() {
        told(Check.desk("(0 23):1 b4"), "4 BELLS at first", "010", 4);
        told(Check.desk("(0 23):1 b5"), "5 BELLS at first", "012", 100);
    }

    // Terms II: "REACH .. (1 .. 24 ..)"; promise 8: "true; false when one can't be."
    private static void reachRange() {
        set("(0 23):1 b1", 1, 100, "010", 1);
        set("(0 23):1 b2", 1, 100, "012", 100);
        set("(0 1):1 (22 23)", 24, 100, "0101", 44);
        set("(0 1):1 (22 23)", 22, 100, "0101", 44);
        set("(0 1):1 (22 23)", 21, 100, "0112", 121);
        CarillonDesk d = Check.desk("(0 23):1 b5");
        for (int reach : new int[] {0, -1, 25, 26}) {
            CHECK.due("fists(" + reach + ", 7)", d.fists(reach, 7), false);
        }
        for (int reach : Check.FAR) {
            CHECK.due("fists(" + reach + ", 7)", d.fists(reach, 7), false);
        }
        told(d, "what it was", "012", 100);
        CHECK.due("fists(1, 7)", d.fists(1, 7), true);
        CHECK.due("fists(24, 7)", d.fists(24, 7), true);
    }

    // Terms II: "PRICE (0 .. 10000 ..)"
    private static void priceRange() {
        set("(0 1 2)", 4, 0, "012", 0);
        set("(0 1 2)", 4, 1, "012", 1);
        set("(0 1 2)", 4, 10000, "012", 10000);
        CarillonDesk d = Check.desk("(0 1 2)");
        for (int price : new int[] {-1, -2, 10001, 10002}) {
            CHECK.due("fists(4, " + price + ")", d.fists(4, price), false);
        }
        for (int price : Check.FAR) {
            CHECK.due("fists(4, " + price + ")", d.fists(4, price), false);
        }
        told(d, "what it was", "012", 100);
    }

    private static void refusedFistsDoNothing() {
        CarillonDesk d = Check.desk("(0 23):1 b5");
        CHECK.due("fists(5, 6)", d.fists(5, 6), true);
        told(d, "5 and 6", "010", 5);
        // One that can be doesn't come in beside one that can't.
        CHECK.due("fists(4, -1)", d.fists(4, -1), false);
        CHECK.due("fists(4, 10001)", d.fists(4, 10001), false);
        told(d, "REACH stays", "010", 5);
        CHECK.due("fists(0, 3)", d.fists(0, 3), false);
        CHECK.due("fists(25, 3)", d.fists(25, 3), false);
        told(d, "PRICE stays", "010", 5);
        CHECK.due("fists(0, -1)", d.fists(0, -1), false);
        told(d, "both stay", "010", 5);
    }

    // Terms II: "at least one tick later"
    private static void oneTickLater() {
        set("(3 4)", 24, 100, "01", 0);
        set("(3 4 5)", 24, 100, "012", 100);
        set("(3 4 5 6)", 24, 100, "0122", 200);
        set("(3 4):1 (3 4)", 24, 100, "0101", 0);
        set("(3 4 5):1 (3 4 5)", 24, 100, "012012", 200);
    }

    // Terms II: "by at most REACH BELLS for each tick that this is later"
    private static void reachForEachTick() {
        set("(0 23):1 b4", 4, 100, "010", 4);
        set("(0 23):1 b5", 4, 100, "012", 100);
        set("(0 23):2 b8", 4, 100, "010", 8);
        set("(0 23):2 b9", 4, 100, "012", 100);
        set("(0 1):5 b21", 4, 100, "011", 20);
        set("(0 1):5 b22", 4, 100, "012", 100);
        set("(22 23):1 b18", 4, 100, "010", 4);
        set("(22 23):1 b17", 4, 100, "012", 100);
        set("(0 1):22 (22 23)", 1, 100, "0101", 44);
        set("(0 1):22 (22 23)", 1, 10000, "0101", 44);
        set("(0 1):21 (22 23)", 1, 100, "0112", 121);
        set("(5 6):1 (5 6)", 1, 100, "0101", 0);
        set("(5 6):1 (6 7)", 1, 100, "0101", 2);
        set("(5 6):1 (7 8)", 1, 100, "0112", 101);
        set("(5 6):1 (8 9)", 1, 100, "0122", 200);
    }

    private static void ticksSinceItsOwnStrike() {
        set("(0 23):1 b23:1 b8", 4, 100, "0110", 8);
        set("(0 23):1 b23:1 b9", 4, 100, "0112", 100);
        set("(0 23):1 b0:1 b15", 4, 100, "0101", 8);
        set("(0 23):1 b0:1 b14", 4, 100, "0102", 100);
    }

    // Terms II: "from the BELL it struck before": one that is LEFT OUT was not struck
    private static void leftOutMovesNothing() {
        set("(0 1 9):2 b8", 4, 100, "0211", 101);
        set("(0 1 9):2 b5", 4, 100, "0121", 104);
        set("(0 1):1 b12:1 b9", 4, 100, "0211", 103);
    }

    // Terms II: "its first one is free"
    private static void firstOneIsFree() {
        set("b0:1 b23", 1, 100, "01", 0);
        set("b23:1 b0", 1, 100, "01", 0);
        set("(0 23)", 1, 0, "01", 0);
        set("b11", 1, 0, "0", 0);
        set("3x{b5:1}b23", 1, 100, "0001", 0);
        set("b0:1 b23:1 b2", 1, 100, "010", 2);
        set("b0:1 b23:1 b3", 1, 100, "012", 100);
    }

    // Terms II: "At one tick LEFT's BELL is below RIGHT's."
    private static void leftBelowRight() {
        set("(3 4)", 4, 100, "01", 0);
        set("b20:1 (0 20)", 24, 100, "101", 0);
        set("(0 20):1 b20", 24, 100, "011", 0);
        set("b20:1 b0:1 (0 20)", 24, 100, "1001", 0);
        set("b0:1 b20:1 (0 20)", 24, 100, "0101", 0);
        // At unlike ticks they may cross.
        set("b20:1 b0", 24, 100, "01", 0);
        set("b20:1 b0:1 b20:1 b0", 24, 100, "0101", 0);
    }

    private static void priceAgainstWay() {
        set("(0 23):1 b4", 4, 3, "012", 3);
        set("(0 23):1 b4", 4, 4, "010", 4);
        set("(0 23):1 b4", 4, 5, "010", 4);
        set("(0 23):1 b1", 4, 0, "012", 0);
        set("(0 1):1 (22 23)", 24, 0, "0122", 0);
        set("(0 1):1 (22 23)", 24, 23, "0101", 44);
        set("(0 1):1 (22 23)", 24, 22, "0112", 43);
        set("(0 1):1 (22 23)", 24, 21, "0112", 42);
        set("(0 1):1 (22 23)", 24, 20, "0122", 40);
    }

    // Terms II: "of those with the least cost the first one: that with the lower number at the first STRIKE in which .. differ"
    private static void firstOfTheCheapest() {
        set("b5", 4, 0, "0", 0);
        set("b5:1 b5", 4, 100, "00", 0);
        set("b5:1 b5", 4, 0, "00", 0);
        set("b5:1 b6", 4, 100, "01", 0);
        set("b5:1 b6", 4, 0, "01", 0);
        set("b0:1 b2:1 b1", 4, 100, "010", 1);
        set("b0:1 b2:1 b1", 4, 1, "010", 1);
        set("b0:1 b2:1 b1", 4, 0, "012", 0);
    }

    // Promise 9: "The cost of THE SETTING.": of nothing and of a full SCORE
    private static void costs() {
        CHECK.due("cost() new", new CarillonDesk().cost(), 0);
        CHECK.due("cost() of silence", Check.desk("_:9").cost(), 0);
        CHECK.due("cost() of one", Check.desk("b9").cost(), 0);
        CarillonDesk d = Check.desk("5x{5x{(1 2 3 4):1}}");
        d.fists(4, 10000);
        CHECK.due("cost() of a full SCORE", d.cost(), 500000);
        d.fists(4, 0);
        CHECK.due("cost() of a full SCORE for nothing", d.cost(), 0);
        CHECK.due("fists that stay strike on", d.count(2), 50);
        Check.score(d, "");
        CHECK.due("cost() of an empty SCORE", d.cost(), 0);
    }

    // Promise 10: "The least REACH with which there is a SETTING with nothing LEFT OUT; NONE if there is none."
    private static void needs() {
        need("", 1);
        need("_", 1);
        need("b5", 1);
        need("(0 23)", 1);
        need("(0 1 2)", -1);
        need("(0 1 2 3)", -1);
        need("b0 (0 1 2)", -1);
        need("(0 1 2) b0", -1);
        need("(0 1):1 (0 1):1 (0 1 2)", -1);
        // 22 is the most that two FISTS can need.
        need("(0 1):1 (22 23)", 22);
        need("(22 23):1 (0 1)", 22);
        need("(0 1):1 (21 23)", 22);
        need("(0 1):1 (21 22)", 21);
        need("(0 1):1 (0 23)", 22);
        need("b0:1 b23:1 b0:1 b23", 1);
        need("5x{5x{2x{(1 2):1}}}", 1);
        need("t0 23:64 t0 23:36", 1);
        need("5x{5x{(1 2 3 4):1}}", -1);
        need("b20:1 (0 20)", 1);
        // One FIST goes on while the other one stays behind.
        need("(0 23):1 b23:1 b23", 1);
        need("(0 23):1 b0:1 b0:1 b1", 1);
        need("(0 23):1 b20:1 b17:1 b0", 3);
        need("(0 1):1 b4:1 b7:1 b4", 3);
        need("b5:1 b5:1 b5:1 b5", 1);
    }

    private static void need(String text, int want) {
        CarillonDesk d = Check.desk(text);
        CHECK.due("need() of " + text, d.need(), want);
        if (want > 0) {
            d.fists(want, 10000);
            CHECK.due("LEFT OUT with it, of " + text, d.count(2), 0);
        }
        if (want > 1) {
            d.fists(want - 1, 10000);
            CHECK.due("LEFT OUT with one less, of " + text, d.count(2) > 0, true);
        }
        if (want < 0) {
            d.fists(24, 10000);
            CHECK.due("LEFT OUT with 24, of " + text, d.count(2) > 0, true);
        }
    }

    private static void needIsRoundedUp() {
        need("(0 1):2 (22 23)", 11);
        need("(0 1):3 (22 23)", 8);
        need("(0 1):10 (22 23)", 3);
        need("(0 1):11 (22 23)", 2);
        need("(0 1):21 (22 23)", 2);
        need("(0 1):22 (22 23)", 1);
        need("(0 1):64 (22 23)", 1);
    }

    // Promise 10: "(REACH stays.)"
    private static void reachStays() {
        CarillonDesk d = Check.desk("(0 1):1 (22 23)");
        d.fists(21, 100);
        CHECK.due("need()", d.need(), 22);
        told(d, "REACH behind need()", "0112", 121);
        // It hangs on neither REACH nor PRICE.
        d.fists(1, 0);
        CHECK.due("need() with 1, 0", d.need(), 22);
        d.fists(24, 10000);
        CHECK.due("need() with 24, 10000", d.need(), 22);
        told(d, "REACH of 24 behind need()", "0101", 44);
    }

    // Promise 11: "Who strikes STRIKE k in THE SETTING; NONE when there is none such."
    private static void whoStrikes() {
        CarillonDesk empty = new CarillonDesk();
        CHECK.due("by(0) of nothing", empty.by(0), -1);
        CHECK.due("by(-1) of nothing", empty.by(-1), -1);
        CarillonDesk d = Check.desk("5x{5x{(1 2 3 4):1}}");
        CHECK.due("by(0)", d.by(0), 0);
        CHECK.due("by(97)", d.by(97), 1);
        CHECK.due("by(99)", d.by(99), 2);
        CHECK.due("by(100)", d.by(100), -1);
        CHECK.due("by(-1)", d.by(-1), -1);
        for (int k : Check.FAR) {
            CHECK.due("by(" + k + ")", d.by(k), -1);
        }
        Check.score(d, "b1:1 b2");
        CHECK.due("by(1) of two", d.by(1), 1);
        CHECK.due("by(2) of two", d.by(2), -1);
    }

    // Promise 12: "How far a FIST goes in all in THE SETTING; NONE for others."
    private static void ways() {
        CarillonDesk d = new CarillonDesk();
        ways(d, "nothing", 0, 0);
        Check.score(d, "b23");
        ways(d, "one", 0, 0);
        Check.score(d, "(0 1):1 (5 4):1 (0 2)");
        ways(d, "both", 8, 7);
        d.fists(1, 100);
        ways(d, "what is LEFT OUT", 0, 1);
        Check.score(d, "3x{b5:1}");
        ways(d, "LEFT that stays", 0, 0);
    }

    private static void ways(CarillonDesk d, String what, int left, int right) {
        CHECK.due("way(0) of " + what, d.way(0), left);
        CHECK.due("way(1) of " + what, d.way(1), right);
        CHECK.due("way(-1) of " + what, d.way(-1), -1);
        CHECK.due("way(2) of " + what, d.way(2), -1);
        for (int fist : Check.FAR) {
            CHECK.due("way(" + fist + ") of " + what, d.way(fist), -1);
        }
    }
}
