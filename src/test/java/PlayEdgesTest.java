import java.util.function.Consumer;
import java.util.function.Predicate;
import java.util.function.Supplier;

/** The edges that promises 1 and 22 to 27 name, all refused calls, and the 512 calls that an object is used for. */
public final class PlayEdgesTest {
    private static final Check CHECK = new Check("PlayEdgesTest");
    private static final int STEPS = 12;

    public static void main(String[] args) {
        newObject();
        playHow();
        playNothing();
        playFull();
        leftOutIsNotStruck();
        strikesOfWhich();
        mendOfWhich();
        wornRange();
        imagePlaces();
        backOfNothing();
        imageOverAnother();
        imagesStay();
        tapeStays();
        eachPartIsKept();
        allIsKept();
        refusedCallsDoNothing();
        callsThatOnlyTell();
        lastCall();
        CHECK.finish();
    }

    // Promise 1: "An empty SCORE; a DRUM of 64 STEPS without pins."
    private static void newObject() {
        CarillonDesk d = new CarillonDesk();
        CHECK.due("count(0)", d.count(0), 0);
        CHECK.due("count(1)", d.count(1), 0);
        CHECK.due("count(2)", d.count(2), 0);
        CHECK.due("strike(0, 0)", d.strike(0, 0), -1);
        CHECK.due("cost()", d.cost(), 0);
        CHECK.due("need()", d.need(), 1);
        CHECK.due("quarrels()", d.quarrels(), 0);
        CHECK.due("fault(0)", d.fault(0), 0);
        CHECK.due("fault(1)", d.fault(1), -1);
        CHECK.due("pins()", d.pins(), 0);
        CHECK.due("pin(63, 0)", d.pin(63, 0), 0);
        CHECK.due("pin(64, 0)", d.pin(64, 0), -1);
        CHECK.due("turn()", d.turn(), -1);
        CHECK.due("worn(1)", d.worn(1), 0);
        CHECK.due("the tape is empty", d.end(1), false);
        // Two objects share nothing.
        CarillonDesk one = rich();
        CarillonDesk other = new CarillonDesk();
        CHECK.due("another's SCORE", other.count(0), 0);
        CHECK.due("another's pins", other.pins(), 0);
        CHECK.due("another's image", other.back(0), false);
        CHECK.due("another's TAIL", other.tail(7, 1), 8);
        CHECK.due("its own SCORE", one.count(0) > 0, true);
    }

    // Promise 22: "how 0 .. (1 ..): how many strikes there were; NONE for another how."
    private static void playHow() {
        CarillonDesk d = Check.desk("b1:1 b2");
        d.change();
        Check.score(d, "b3");
        CHECK.due("play(0)", d.play(0), 1);
        CHECK.due("play(1)", d.play(1), 2);
        CHECK.due("play(-1)", d.play(-1), -1);
        CHECK.due("play(2)", d.play(2), -1);
        for (int how : Check.FAR) {
            CHECK.due("play(" + how + ")", d.play(how), -1);
        }
        CHECK.due("strikes(1)", d.strikes(1), 1);
        CHECK.due("strikes(2)", d.strikes(2), 1);
        CHECK.due("strikes(3)", d.strikes(3), 1);
    }

    private static void playNothing() {
        CarillonDesk d = new CarillonDesk();
        CHECK.due("play(0) of nothing", d.play(0), 0);
        CHECK.due("play(1) of nothing", d.play(1), 0);
        Check.score(d, "_");
        CHECK.due("play(0) of silence", d.play(0), 0);
        Check.score(d, "b1");
        CHECK.due("play(1) without pins", d.play(1), 0);
        CHECK.due("worn(1)", d.worn(1), 0);
    }

    private static void playFull() {
        CarillonDesk d = Check.desk("t0 23:64 t0 23:36");
        d.drum(100);
        d.change();
        CHECK.due("play(0) of 100", d.play(0), 100);
        CHECK.due("play(1) of 100", d.play(1), 100);
        CHECK.due("strikes(0)", d.strikes(0), 100);
        CHECK.due("strikes(23)", d.strikes(23), 100);
        CHECK.due("strikes(1)", d.strikes(1), 0);
    }

    // Promise 22: "(how 0: each STRIKE that is not LEFT OUT)", "(1: each pin)"
    private static void leftOutIsNotStruck() {
        CarillonDesk d = Check.desk("(1 2):1 (1 2)");
        CHECK.due("play(0) of two at once", d.play(0), 4);
        Check.score(d, "(1 2 3):1 (1 2 3)");
        CHECK.due("play(0) of three at once", d.play(0), 4);
        CHECK.due("strikes(1)", d.strikes(1), 4);
        CHECK.due("strikes(3)", d.strikes(3), 0);
        d.change();
        CHECK.due("play(1) of three at once", d.play(1), 6);
        CHECK.due("strikes(3) by THE DRUM", d.strikes(3), 2);
        Check.score(d, "(0 23):1 b5");
        CHECK.due("play(0) out of REACH", d.play(0), 2);
        d.fists(5, 100);
        CHECK.due("play(0) within REACH", d.play(0), 3);
        CHECK.due("strikes(5)", d.strikes(5), 1);
    }

    // Promise 23: "How often a BELL was struck in all since it was mended; NONE when there is none such."
    private static void strikesOfWhich() {
        CarillonDesk d = Check.desk("(0 23):1 b0");
        d.play(0);
        CHECK.due("strikes(0)", d.strikes(0), 2);
        CHECK.due("strikes(23)", d.strikes(23), 1);
        CHECK.due("strikes(22)", d.strikes(22), 0);
        CHECK.due("strikes(-1)", d.strikes(-1), -1);
        CHECK.due("strikes(24)", d.strikes(24), -1);
        for (int bell : Check.FAR) {
            CHECK.due("strikes(" + bell + ")", d.strikes(bell), -1);
        }
        d.mend(0);
        CHECK.due("strikes(0) mended", d.strikes(0), 0);
        d.play(0);
        CHECK.due("strikes(0) since", d.strikes(0), 2);
        CHECK.due("strikes(23) in all", d.strikes(23), 2);
        Check.score(d, "");
        d.drum(5);
        CHECK.due("strikes(0) behind score() and drum()", d.strikes(0), 2);
    }

    // Promise 24: "A BELL's clapper is mended: how often it was struck; NONE when there is none such."
    private static void mendOfWhich() {
        CarillonDesk d = Check.desk("(0 23):1 b0");
        CHECK.due("mend(0) ahead of any", d.mend(0), 0);
        d.play(0);
        CHECK.due("mend(-1)", d.mend(-1), -1);
        CHECK.due("mend(24)", d.mend(24), -1);
        for (int bell : Check.FAR) {
            CHECK.due("mend(" + bell + ")", d.mend(bell), -1);
        }
        CHECK.due("strikes(0) stay", d.strikes(0), 2);
        CHECK.due("strikes(23) stay", d.strikes(23), 1);
        CHECK.due("mend(0)", d.mend(0), 2);
        CHECK.due("mend(0) again", d.mend(0), 0);
        CHECK.due("mend(23)", d.mend(23), 1);
        CHECK.due("mend(23) again", d.mend(23), 0);
    }

    // Promise 25: "How many BELLS were struck n times or more (n 1 or more; NONE for others)."
    private static void wornRange() {
        CarillonDesk d = Check.desk("b0:1 b0:1 b0:1 b23:1 b23:1 b5");
        CHECK.due("worn(1) ahead", d.worn(1), 0);
        d.play(0);
        CHECK.due("worn(1)", d.worn(1), 3);
        CHECK.due("worn(2)", d.worn(2), 2);
        CHECK.due("worn(3)", d.worn(3), 1);
        CHECK.due("worn(4)", d.worn(4), 0);
        CHECK.due("worn(max)", d.worn(Integer.MAX_VALUE), 0);
        CHECK.due("worn(0)", d.worn(0), -1);
        CHECK.due("worn(-1)", d.worn(-1), -1);
        CHECK.due("worn(min)", d.worn(Integer.MIN_VALUE), -1);
        d.mend(0);
        CHECK.due("worn(1) behind mend(0)", d.worn(1), 2);
        CHECK.due("worn(3) behind mend(0)", d.worn(3), 0);
        CarillonDesk all = new CarillonDesk();
        Check.score(all, everyBell());
        all.play(0);
        CHECK.due("worn(1) of every BELL", all.worn(1), 24);
        CHECK.due("worn(2) of every BELL", all.worn(2), 0);
    }

    private static String everyBell() {
        StringBuilder text = new StringBuilder();
        for (int bell = 0; bell < 24; bell++) {
            text.append('b').append(bell).append(' ');
        }
        return text.toString();
    }

    // Promise 26: "kept at a place 0, 1: true; false when there is none such."
    private static void imagePlaces() {
        CarillonDesk d = new CarillonDesk();
        CHECK.due("image(0)", d.image(0), true);
        CHECK.due("image(1)", d.image(1), true);
        CHECK.due("image(-1)", d.image(-1), false);
        CHECK.due("image(2)", d.image(2), false);
        CHECK.due("back(-1)", d.back(-1), false);
        CHECK.due("back(2)", d.back(2), false);
        for (int place : Check.FAR) {
            CHECK.due("image(" + place + ")", d.image(place), false);
            CHECK.due("back(" + place + ")", d.back(place), false);
        }
        CHECK.due("back(0)", d.back(0), true);
        CHECK.due("back(1)", d.back(1), true);
    }

    // Promise 27: "false when nothing was"
    private static void backOfNothing() {
        CarillonDesk d = new CarillonDesk();
        d.tail(3, 30);
        CHECK.due("back(0) of nothing", d.back(0), false);
        CHECK.due("back(1) of nothing", d.back(1), false);
        CHECK.due("it stays", d.tail(3, 31), 30);
        d.image(1);
        d.tail(3, 32);
        CHECK.due("back(0) of nothing still", d.back(0), false);
        CHECK.due("it stays still", d.tail(3, 33), 32);
        CHECK.due("back(1)", d.back(1), true);
        CHECK.due("it is back", d.tail(3, 34), 31);
        // A refused image keeps nothing anywhere.
        CarillonDesk refused = new CarillonDesk();
        refused.image(2);
        refused.image(-1);
        CHECK.due("back(0) behind refused images", refused.back(0), false);
        CHECK.due("back(1) behind refused images", refused.back(1), false);
    }

    private static void imageOverAnother() {
        CarillonDesk d = new CarillonDesk();
        d.image(0);
        d.tail(3, 30);
        d.image(0);
        d.tail(3, 31);
        d.back(0);
        CHECK.due("the later image", d.tail(3, 32), 30);
        d.back(0);
        CHECK.due("once more", d.tail(3, 33), 30);
    }

    // Promises 26, 27: "All but the tape and images"
    private static void imagesStay() {
        CarillonDesk d = new CarillonDesk();
        d.image(0);
        d.tail(3, 30);
        d.image(1);
        d.back(0);
        CHECK.due("place 0", d.tail(3, 40), 8);
        d.back(1);
        CHECK.due("place 1 stays behind back(0)", d.tail(3, 41), 30);
        d.back(0);
        CHECK.due("place 0 stays behind back(1)", d.tail(3, 42), 8);
        // What is done behind back() doesn't go into the image.
        d.back(1);
        d.tail(3, 50);
        Check.score(d, "b1");
        d.change();
        d.play(1);
        d.back(1);
        CHECK.due("TAIL as it was kept", d.tail(3, 51), 30);
        CHECK.due("SCORE as it was kept", d.count(0), 0);
        CHECK.due("pins as they were kept", d.pins(), 0);
        CHECK.due("strikes as they were kept", d.strikes(1), 0);
    }

    private static void tapeStays() {
        CarillonDesk d = new CarillonDesk();
        Check.put(d, "b1 b2");
        d.image(0);
        CHECK.due("image() leaves the tape", d.end(5), true);
        CHECK.due("score()", d.score(), 2);
        d.back(0);
        CHECK.due("back() doesn't bring a tape", d.end(1), false);
        Check.put(d, "b3 b4 b5");
        d.back(0);
        CHECK.due("back() leaves the tape", d.end(8), true);
        CHECK.due("it has no more than it had", d.end(9), false);
        CHECK.due("score() of it", d.score(), 3);
        CHECK.due("strike(0, 1) of it", d.strike(0, 1), 3);
        Check.put(d, "b3 b4 b5");
        d.back(1);
        d.image(7);
        CHECK.due("refused ones leave the tape", d.end(8), true);
    }

    // Promise 27: "All but the tape and images is as it was kept", part by part
    private static void eachPartIsKept() {
        kept("SCORE", d -> Check.score(d, "b9 b10"), d -> Check.strikes(d).equals(Check.strikes(rich())));
        kept("SCORE's end", d -> Check.score(d, "b9 b10"), d -> d.count(1) == rich().count(1));
        kept("FAULT", d -> Check.score(d, ""), d -> d.fault(0) == 2 && d.fault(1) == 4);
        kept("FAULT over another", d -> Check.score(d, "c"), d -> d.fault(0) == 2 && d.fault(1) == 4);
        kept("REACH", d -> d.fists(24, 90), d -> d.cost() == rich().cost());
        kept("PRICE", d -> d.fists(2, 0), d -> d.cost() == rich().cost());
        kept("SETTING", d -> d.fists(24, 0), d -> Check.setting(d).equals(Check.setting(rich())));
        kept("TAIL", d -> d.tail(7, 1), d -> d.tail(7, 1) == 33);
        kept("quarrels", d -> d.quarrel(0), d -> d.quarrel(0) == 77);
        kept("STEPS", d -> d.drum(20), d -> d.pin(STEPS - 1, 0) != -1 && d.pin(STEPS, 0) == -1);
        kept("pins", d -> d.drum(STEPS), d -> d.pins() == 4 && d.pin(3, 5) == 1 && d.pin(1, 0) == 1);
        kept("TURN", d -> d.drum(STEPS), d -> d.turn() == 1);
        kept("strikes", d -> d.play(1), d -> d.strikes(5) == rich().strikes(5));
        kept("mended strikes", d -> d.mend(5), d -> d.strikes(5) == rich().strikes(5));
    }

    private static void kept(String part, Consumer<CarillonDesk> change, Predicate<CarillonDesk> asItWas) {
        for (int place = 0; place < 2; place++) {
            CarillonDesk d = rich();
            d.image(place);
            CHECK.due(part + " ahead", asItWas.test(rich()), true);
            change.accept(d);
            CHECK.due("back(" + place + ")", d.back(place), true);
            CHECK.due(part + " is as it was kept at " + place, asItWas.test(d), true);
            CarillonDesk without = rich();
            change.accept(without);
            CHECK.due(part + " was changed", asItWas.test(without), false);
        }
    }

    /** A desk in which nothing is as in a new one; what it tells fits into some 60 calls. */
    private static CarillonDesk rich() {
        CarillonDesk d = new CarillonDesk();
        d.fists(2, 90);
        d.tail(7, 33);
        d.quarrel(77);
        d.drum(STEPS);
        Check.score(d, "_:1 (0 1):2 b5:1 b7");
        d.change();
        Check.score(d, "(0 1):2 b5:1 b7");
        d.change();
        d.play(1);
        d.play(0);
        Check.score(d, "(0 1 5):3 t7 9:5 b3:2 b20");
        d.play(0);
        d.mend(9);
        Check.score(d, "b1 b24");
        return d;
    }

    private static void allIsKept() {
        String atFirst = Told.of(CarillonDesk::new, 64);
        String second = Told.of(PlayEdgesTest::rich, 64);
        CHECK.due("told unlike", atFirst.equals(second), false);
        told("a new desk is back", atFirst, () -> {
            CarillonDesk d = new CarillonDesk();
            d.image(0);
            change(d);
            d.back(0);
            return d;
        });
        told("a rich desk is back", second, () -> {
            CarillonDesk d = rich();
            d.image(1);
            change(d);
            d.back(1);
            return d;
        });
        told("a rich desk is back twice", second, () -> {
            CarillonDesk d = rich();
            d.image(1);
            d.image(0);
            change(d);
            d.image(0);
            d.back(1);
            change(d);
            d.back(1);
            return d;
        });
    }

    private static void change(CarillonDesk d) {
        Check.score(d, "t0 23:9 b7");
        d.fists(24, 1);
        d.drum(64);
        d.change();
        d.play(0);
        d.play(1);
        for (int bell = 0; bell < 24; bell++) {
            d.tail(bell, 2);
        }
        d.mend(7);
        d.quarrel(4095);
        Check.score(d, "?");
    }

    private static void told(String what, String want, Supplier<CarillonDesk> made) {
        CHECK.due(what, Told.of(made, 64).equals(want), true);
    }

    /** A call that is answered with NONE or false leaves all as it was, on an empty desk and on a rich one. */
    private static void refusedCallsDoNothing() {
        String empty = Told.of(CarillonDesk::new, 64);
        String rich = Told.of(PlayEdgesTest::rich, 64);
        Consumer<CarillonDesk> refused = d -> {
            for (int low : new int[] {-1, Integer.MIN_VALUE}) {
                refuse(d, low, -1);
            }
            refuse(d, Integer.MAX_VALUE, Integer.MAX_VALUE);
            CHECK.due("fists(25, 0)", d.fists(25, 0), false);
            CHECK.due("fists(0, 0)", d.fists(0, 0), false);
            CHECK.due("fists(24, 10001)", d.fists(24, 10001), false);
            CHECK.due("tail(24, 1)", d.tail(24, 1), -1);
            CHECK.due("tail(7, 0)", d.tail(7, 0), -1);
            CHECK.due("tail(7, 61)", d.tail(7, 61), -1);
            CHECK.due("quarrel(4096)", d.quarrel(4096), -1);
            CHECK.due("drum(0)", d.drum(0), false);
            CHECK.due("drum(2064)", d.drum(2064), false);
            CHECK.due("play(2)", d.play(2), -1);
            CHECK.due("mend(24)", d.mend(24), -1);
            CHECK.due("worn(0)", d.worn(0), -1);
            CHECK.due("image(2)", d.image(2), false);
            CHECK.due("back(0)", d.back(0), false);
            CHECK.due("back(2)", d.back(2), false);
            CHECK.due("end(1)", d.end(1), false);
        };
        told("an empty desk behind refused calls", empty, () -> with(new CarillonDesk(), refused));
        told("a rich desk behind refused calls", rich, () -> with(rich(), refused));
    }

    private static void refuse(CarillonDesk d, int a, int b) {
        CHECK.due("end", d.end(a), false);
        CHECK.due("fault", d.fault(a), -1);
        CHECK.due("strike", d.strike(a, 0), -1);
        CHECK.due("strike", d.strike(0, b), -1);
        CHECK.due("count", d.count(a), -1);
        CHECK.due("fists", d.fists(a, 0), false);
        CHECK.due("fists", d.fists(1, b), false);
        CHECK.due("by", d.by(a), -1);
        CHECK.due("way", d.way(a), -1);
        CHECK.due("tail", d.tail(a, 1), -1);
        CHECK.due("tail", d.tail(0, b), -1);
        CHECK.due("quarrel", d.quarrel(a), -1);
        CHECK.due("sounds", d.sounds(a), -1);
        CHECK.due("drum", d.drum(a), false);
        CHECK.due("pin", d.pin(a, 0), -1);
        CHECK.due("pin", d.pin(0, b), -1);
        CHECK.due("play", d.play(a), -1);
        CHECK.due("strikes", d.strikes(a), -1);
        CHECK.due("mend", d.mend(a), -1);
        CHECK.due("image", d.image(a), false);
        CHECK.due("back", d.back(a), false);
    }

    private static CarillonDesk with(CarillonDesk d, Consumer<CarillonDesk> calls) {
        calls.accept(d);
        return d;
    }

    /** What only tells changes nothing, and neither does the tape until score(). */
    private static void callsThatOnlyTell() {
        String rich = Told.of(PlayEdgesTest::rich, 64);
        told("a rich desk behind calls that tell", rich, () -> with(rich(), d -> {
            d.fault(0);
            d.strike(0, 0);
            d.count(2);
            d.cost();
            d.need();
            d.by(0);
            d.way(1);
            d.quarrels();
            d.sounds(0);
            d.turn();
            d.pin(0, 0);
            d.pins();
            d.strikes(5);
            d.worn(1);
            d.image(0);
            Check.put(d, "b1 b2 b3");
            d.end(2);
        }));
    }

    // "An object is used for at most 512 calls after it has been made"
    private static void lastCall() {
        CarillonDesk d = new CarillonDesk();
        // Two feed(), end() and score().
        CHECK.due("100 STRIKES of BELL 0", Check.score(d, "9x{9x{b0:1}2x{b0}}b0 "), 100);
        for (int call = 5; call < 512; call++) {
            CHECK.due("call " + call, d.play(0), 100);
        }
        CHECK.due("the 512th call", d.strikes(0), 50700);
        CarillonDesk tape = new CarillonDesk();
        for (int call = 1; call < 512; call++) {
            int fed = tape.feed(0x62310A20, 0x20202020, 0x20202020, 0x20202020, 0x20202020);
            CHECK.due("feed " + call, fed, call <= 50 ? 20 * call : -1);
        }
        CHECK.due("the 512th call", tape.score(), 50);
        CarillonDesk kept = Check.desk("b1");
        for (int call = 4; call < 512; call += 2) {
            CHECK.due("image", kept.image(call / 2 % 2), true);
            CHECK.due("play", kept.play(0), 1);
        }
        CHECK.due("back", kept.back(0), true);
    }
}
