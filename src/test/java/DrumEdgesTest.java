/** The edges that Terms IV and promises 17 to 21 name: each sentence at the last value allowed and the first one not. */
public final class DrumEdgesTest {
    private static final Check CHECK = new Check("DrumEdgesTest");
    /** A STRIKE at the last tick that there can be, 2062. */
    private static final String LAST = "5x{6x{_:64}}_:64 _:15 t1 2:64";

    public static void main(String[] args) {
        newDrum();
        stepsRange();
        refusedDrumDoesNothing();
        drumHasNoPins();
        strikesBelowSteps();
        refusedChangeDoesNothing();
        moduloSteps();
        turnBelowSteps();
        mostOfItsPins();
        ofSeveralTheLeast();
        putIn();
        emptyScore();
        oneStep();
        fullDrum();
        latestTurn();
        whichPin();
        CHECK.finish();
    }

    private static CarillonDesk pinned(int steps, String text) {
        CarillonDesk d = new CarillonDesk();
        d.drum(steps);
        Check.score(d, text);
        d.change();
        return d;
    }

    private static void changed(CarillonDesk d, String text, int put, int turn) {
        Check.score(d, text);
        CHECK.due("change() to " + text, d.change(), put);
        CHECK.due("turn() of " + text, d.turn(), turn);
        CHECK.due("pins() of " + text, d.pins(), d.count(0));
    }

    // Promise 1: "a DRUM of 64 STEPS without pins"
    private static void newDrum() {
        CarillonDesk d = new CarillonDesk();
        CHECK.due("pins()", d.pins(), 0);
        CHECK.due("turn()", d.turn(), -1);
        for (int bell = 0; bell < 24; bell++) {
            CHECK.due("pin(0, " + bell + ")", d.pin(0, bell), 0);
            CHECK.due("pin(63, " + bell + ")", d.pin(63, bell), 0);
            CHECK.due("pin(64, " + bell + ")", d.pin(64, bell), -1);
        }
        Check.score(d, "_:64 b1");
        CHECK.due("change() with a STRIKE at 64", d.change(), -1);
        Check.score(d, "_:63 b1");
        CHECK.due("change() with a STRIKE at 63", d.change(), 1);
        CHECK.due("pin(63, 1)", d.pin(63, 1), 1);
    }

    // Terms IV: "STEPS (1 .. 2063)"; promise 17: "true; false when that can't be."
    private static void stepsRange() {
        CarillonDesk d = new CarillonDesk();
        CHECK.due("drum(1)", d.drum(1), true);
        CHECK.due("pin(0, 0) of 1", d.pin(0, 0), 0);
        CHECK.due("pin(1, 0) of 1", d.pin(1, 0), -1);
        CHECK.due("drum(2063)", d.drum(2063), true);
        CHECK.due("pin(2062, 0) of 2063", d.pin(2062, 0), 0);
        CHECK.due("pin(2063, 0) of 2063", d.pin(2063, 0), -1);
        CHECK.due("drum(0)", d.drum(0), false);
        CHECK.due("drum(-1)", d.drum(-1), false);
        CHECK.due("drum(2064)", d.drum(2064), false);
        for (int steps : Check.FAR) {
            CHECK.due("drum(" + steps + ")", d.drum(steps), false);
        }
        CHECK.due("pin(2062, 0) behind them", d.pin(2062, 0), 0);
    }

    private static void refusedDrumDoesNothing() {
        for (int steps : new int[] {0, -1, 2064, Integer.MIN_VALUE, Integer.MAX_VALUE}) {
            CarillonDesk d = pinned(9, "b1:1 b2");
            changed(d, "b2:8 b1", 0, 1);
            CHECK.due("drum(" + steps + ")", d.drum(steps), false);
            CHECK.due("pins() stay", d.pins(), 2);
            CHECK.due("pin(1, 2) stays", d.pin(1, 2), 1);
            CHECK.due("turn() stays", d.turn(), 1);
            CHECK.due("the last step stays", d.pin(8, 0), 0);
            CHECK.due("STEPS stay", d.pin(9, 0), -1);
        }
    }

    // Promise 17: "THE DRUM has so many STEPS, and no pins"
    private static void drumHasNoPins() {
        for (int steps : new int[] {9, 1, 10}) {
            CarillonDesk d = pinned(9, "b1:1 b2");
            CHECK.due("drum(" + steps + ")", d.drum(steps), true);
            CHECK.due("pins() behind it", d.pins(), 0);
            CHECK.due("pin(0, 1) behind it", d.pin(0, 1), 0);
            CHECK.due("turn() behind it", d.turn(), -1);
            CHECK.due("play(1) behind it", d.play(1), 0);
        }
    }

    // Terms IV: "a SCORE whose STRIKES are all below STEPS"; promise 18: "NONE: a STRIKE is not below STEPS"
    private static void strikesBelowSteps() {
        CarillonDesk d = new CarillonDesk();
        d.drum(5);
        Check.score(d, "b1:5 b2");
        CHECK.due("change() with a STRIKE at 5 of 5", d.change(), -1);
        Check.score(d, "b1:4 b2");
        CHECK.due("change() with a STRIKE at 4 of 5", d.change(), 2);
        Check.score(d, "b1:4 b2:1 b3");
        CHECK.due("change() with only the last one at 5", d.change(), -1);
        Check.score(d, "b1:4 t2 3:2");
        CHECK.due("change() with a t up to 5", d.change(), -1);
        Check.score(d, "b1:4 t2 3:1");
        CHECK.due("change() with a t up to 4", d.change(), 0);
        // Where the last ITEM ends doesn't count.
        Check.score(d, "b1:64 _:64");
        CHECK.due("change() with silence behind", d.change(), 0);
        Check.score(d, LAST);
        d.drum(2062);
        CHECK.due("change() with a STRIKE at 2062 of 2062", d.change(), -1);
        d.drum(2063);
        CHECK.due("change() with a STRIKE at 2062 of 2063", d.change(), 64);
        CHECK.due("pin(2062, 2)", d.pin(2062, 2), 1);
    }

    private static void refusedChangeDoesNothing() {
        CarillonDesk d = pinned(5, "b1:1 b2");
        changed(d, "b2:4 b1", 0, 1);
        Check.score(d, "b3:5 b4");
        CHECK.due("change() with a STRIKE at 5 of 5", d.change(), -1);
        CHECK.due("turn() stays", d.turn(), 1);
        CHECK.due("pins() stay", d.pins(), 2);
        CHECK.due("pin(0, 1) stays", d.pin(0, 1), 1);
        CHECK.due("pin(1, 2) stays", d.pin(1, 2), 1);
        CHECK.due("no pin came", d.pin(0, 3), 0);
    }

    // Terms IV: "each at (its tick and s) modulo STEPS"
    private static void moduloSteps() {
        CarillonDesk d = pinned(8, "b0:1 b1");
        changed(d, "b1:6 b2:1 b0", 1, 1);
        CHECK.due("tick 7 and 1 is step 0", d.pin(0, 0), 1);
        CHECK.due("tick 6 and 1 is step 7", d.pin(7, 2), 1);
        CHECK.due("tick 0 and 1 is step 1", d.pin(1, 1), 1);
        d = pinned(8, "b0");
        changed(d, "_:1 b0:6 b3", 1, 7);
        CHECK.due("tick 1 and 7 is step 0", d.pin(0, 0), 1);
        CHECK.due("tick 7 and 7 is step 6", d.pin(6, 3), 1);
        d = pinned(2063, "b2");
        Check.score(d, LAST);
        CHECK.due("change() round the greatest DRUM", d.change(), 63);
        // BELL 2 is struck at 2000, 2002, .. 2062: the last of these takes the least TURN to step 0.
        CHECK.due("turn()", d.turn(), 1);
        CHECK.due("tick 2062 and 1 is step 0", d.pin(0, 2), 1);
        CHECK.due("tick 2061 and 1 is step 2062", d.pin(2062, 1), 1);
    }

    // Terms IV: "A TURN s (from 0 to below STEPS)"
    private static void turnBelowSteps() {
        changed(pinned(8, "b0"), "b0", 0, 0);
        changed(pinned(8, "_:7 b0"), "b0", 0, 7);
        changed(pinned(8, "b0"), "_:1 b0", 0, 7);
        changed(pinned(8, "b0"), "_:7 b0", 0, 1);
        changed(pinned(2063, "b0"), "_:1 b0", 0, 2062);
        changed(pinned(2, "b0"), "_:1 b0", 0, 1);
    }

    // Promise 18: "by the TURN that keeps the most of its pins"
    private static void mostOfItsPins() {
        CarillonDesk d = pinned(10, "b0:3 b1:2 b2");
        changed(d, "b0:1 b1:2 b2", 1, 2);
        CHECK.due("pin(2, 0) came", d.pin(2, 0), 1);
        CHECK.due("pin(3, 1) stays", d.pin(3, 1), 1);
        CHECK.due("pin(5, 2) stays", d.pin(5, 2), 1);
        CHECK.due("pin(0, 0) went", d.pin(0, 0), 0);
        // A pin of another BELL at the step is none that is kept.
        changed(pinned(10, "b0:3 b1"), "b1:3 b0", 1, 3);
        changed(pinned(10, "(0 1 2 3)"), "_:2 (3 4 5 6)", 3, 8);
    }

    // Promise 18: "(of several the least)"
    private static void ofSeveralTheLeast() {
        changed(pinned(8, "4x{b0:2}"), "4x{b0:2}", 0, 0);
        changed(pinned(8, "_:1 4x{b0:2}"), "4x{b0:2}", 0, 1);
        changed(pinned(6, "_:1 b0:2 b0"), "b0", 0, 1);
        changed(pinned(6, "b0:5 b0"), "b0", 0, 0);
        changed(pinned(6, "b0:5 b0"), "_:1 b0", 0, 4);
        changed(pinned(6, "b0:1 b1"), "b1:2 b0", 1, 1);
        changed(pinned(6, "b0"), "b1", 1, 0);
        changed(pinned(6, "_:3 b0"), "b1:1 b2", 2, 0);
    }

    // Promise 18: "how many pins are put in that were not there"
    private static void putIn() {
        CarillonDesk d = new CarillonDesk();
        changed(d, "b0:2 b1:2 b2", 3, 0);
        changed(d, "b0:2 b1:2 b2", 0, 0);
        changed(d, "b0:2 b1:2 b2:2 b3", 1, 0);
        changed(d, "b1:2 b2", 0, 2);
        changed(d, "(9 10 11 12)", 4, 0);
    }

    private static void emptyScore() {
        CarillonDesk d = new CarillonDesk();
        CHECK.due("change() new", d.change(), 0);
        CHECK.due("turn() new", d.turn(), 0);
        d = pinned(7, "_:3 b1:1 b2");
        changed(d, "b2", 0, 4);
        changed(d, "", 0, 0);
        CHECK.due("the pin went", d.pin(4, 2), 0);
        changed(d, "_:64 _", 0, 0);
        d.drum(1);
        CHECK.due("change() of nothing on one step", d.change(), 0);
    }

    private static void oneStep() {
        CarillonDesk d = new CarillonDesk();
        d.drum(1);
        changed(d, "(1 2 3 4)", 4, 0);
        changed(d, "(3 4 5)", 1, 0);
        CHECK.due("pin(0, 5)", d.pin(0, 5), 1);
        Check.score(d, "b1:1 b2");
        CHECK.due("change() with a STRIKE at 1 of 1", d.change(), -1);
        CHECK.due("pins() stay", d.pins(), 3);
    }

    // Promise 21: "How many pins there are."
    private static void fullDrum() {
        CarillonDesk d = new CarillonDesk();
        CHECK.due("pins() new", d.pins(), 0);
        d.drum(25);
        changed(d, "5x{5x{(1 2 3 4):1}}", 100, 0);
        changed(d, "5x{5x{(1 2 3 4):1}}", 0, 0);
        changed(d, "5x{5x{(4 5 6 7):1}}", 75, 0);
        CHECK.due("pins() of a full SCORE", d.pins(), 100);
        CHECK.due("play(1) of them", d.play(1), 100);
        changed(d, "b4", 0, 0);
        d.drum(100);
        changed(d, "t1 2:64 t1 2:36", 100, 0);
        CHECK.due("pin(99, 2)", d.pin(99, 2), 1);
        CHECK.due("pin(99, 1)", d.pin(99, 1), 0);
    }

    // Promise 19: "The TURN of the latest change() that was done; NONE ahead of any, and behind drum()."
    private static void latestTurn() {
        CarillonDesk d = new CarillonDesk();
        CHECK.due("turn() new", d.turn(), -1);
        Check.score(d, "_:64 b1");
        CHECK.due("change() refused", d.change(), -1);
        CHECK.due("turn() behind none that was done", d.turn(), -1);
        Check.score(d, "b1:1 b2");
        CHECK.due("turn() behind score()", d.turn(), -1);
        d.change();
        CHECK.due("turn() behind the first change()", d.turn(), 0);
        changed(d, "b2", 0, 1);
        Check.score(d, "b9:3 b9");
        CHECK.due("turn() stays behind score()", d.turn(), 1);
        d.play(1);
        CHECK.due("turn() stays behind play(1)", d.turn(), 1);
        CHECK.due("drum(0)", d.drum(0), false);
        CHECK.due("turn() stays behind a refused drum()", d.turn(), 1);
        CHECK.due("drum(64)", d.drum(64), true);
        CHECK.due("turn() behind drum()", d.turn(), -1);
        d.drum(3);
        CHECK.due("change() refused", d.change(), -1);
        CHECK.due("turn() behind a refused change()", d.turn(), -1);
    }

    // Promise 20: "Whether there is a pin: 1, 0; NONE when there is no such step, BELL."
    private static void whichPin() {
        CarillonDesk d = pinned(7, "(0 23):6 (0 23)");
        for (int step : new int[] {0, 6}) {
            CHECK.due("pin(" + step + ", 0)", d.pin(step, 0), 1);
            CHECK.due("pin(" + step + ", 23)", d.pin(step, 23), 1);
            CHECK.due("pin(" + step + ", 1)", d.pin(step, 1), 0);
            CHECK.due("pin(" + step + ", -1)", d.pin(step, -1), -1);
            CHECK.due("pin(" + step + ", 24)", d.pin(step, 24), -1);
            for (int bell : Check.FAR) {
                CHECK.due("pin(" + step + ", " + bell + ")", d.pin(step, bell), -1);
            }
        }
        CHECK.due("pin(1, 0)", d.pin(1, 0), 0);
        CHECK.due("pin(5, 23)", d.pin(5, 23), 0);
        CHECK.due("pin(-1, 0)", d.pin(-1, 0), -1);
        CHECK.due("pin(7, 0)", d.pin(7, 0), -1);
        CHECK.due("pin(7, 24)", d.pin(7, 24), -1);
        for (int step : Check.FAR) {
            CHECK.due("pin(" + step + ", 0)", d.pin(step, 0), -1);
        }
    }
}
