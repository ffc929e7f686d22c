/** Promises 1 and 22 to 27: playing, clappers, images; and every call with arguments of all kinds. */
public final class PlayTest {
    private static final Check CHECK = new Check("PlayTest");

    public static void main(String[] args) {
        newDesk();
        playing();
        clappers();
        images();
        anyArguments();
        CHECK.finish();
    }

    private static void newDesk() {
        CarillonDesk d = new CarillonDesk();
        CHECK.due("play(0)", d.play(0), 0);
        CHECK.due("play(1)", d.play(1), 0);
        for (int bell = 0; bell < 24; bell++) {
            CHECK.due("strikes", d.strikes(bell), 0);
        }
        CHECK.due("worn(1)", d.worn(1), 0);
        CHECK.due("back(0)", d.back(0), false);
        CHECK.due("back(1)", d.back(1), false);
        CHECK.due("score() of an empty tape", d.score(), 0);
        CHECK.due("STEPS", d.pin(63, 0), 0);
        CHECK.due("STEPS", d.pin(64, 0), -1);
        Check.score(d, "(0 1):1 (5 6):1");
        CHECK.due("first REACH is 4, first PRICE 100", d.cost(), 104);
    }

    private static void playing() {
        CarillonDesk d = new CarillonDesk();
        Check.score(d, "(0 5 9):2 b5");
        CHECK.due("play(0)", d.play(0), 3);
        CHECK.due("strikes(0)", d.strikes(0), 1);
        CHECK.due("strikes(5)", d.strikes(5), 2);
        CHECK.due("strikes(9) left out", d.strikes(9), 0);
        CHECK.due("play(1) without pins", d.play(1), 0);
        d.change();
        CHECK.due("play(1)", d.play(1), 4);
        CHECK.due("strikes(5)", d.strikes(5), 4);
        CHECK.due("strikes(9)", d.strikes(9), 1);
        Check.score(d, "b1");
        CHECK.due("play(1) is not the SCORE", d.play(1), 4);
        CHECK.due("play(0)", d.play(0), 1);
        CHECK.due("play(2)", d.play(2), -1);
        CHECK.due("play(-1)", d.play(-1), -1);
        CHECK.due("play(max)", d.play(Integer.MAX_VALUE), -1);
        CHECK.due("strikes(1)", d.strikes(1), 1);
    }

    private static void clappers() {
        CarillonDesk d = new CarillonDesk();
        Check.score(d, "t3 4:3 b23");
        d.play(0);
        d.play(0);
        CHECK.due("worn(1)", d.worn(1), 3);
        CHECK.due("worn(2)", d.worn(2), 3);
        CHECK.due("worn(3)", d.worn(3), 1);
        CHECK.due("worn(4)", d.worn(4), 1);
        CHECK.due("worn(5)", d.worn(5), 0);
        CHECK.due("worn(0)", d.worn(0), -1);
        CHECK.due("worn(-1)", d.worn(-1), -1);
        CHECK.due("worn(min)", d.worn(Integer.MIN_VALUE), -1);
        CHECK.due("worn(max)", d.worn(Integer.MAX_VALUE), 0);
        CHECK.due("mend(3)", d.mend(3), 4);
        CHECK.due("strikes(3)", d.strikes(3), 0);
        CHECK.due("strikes(4)", d.strikes(4), 2);
        CHECK.due("mend(3) again", d.mend(3), 0);
        CHECK.due("mend(24)", d.mend(24), -1);
        CHECK.due("mend(-1)", d.mend(-1), -1);
        CHECK.due("strikes(24)", d.strikes(24), -1);
        CHECK.due("strikes(-1)", d.strikes(-1), -1);
        CHECK.due("strikes(max)", d.strikes(Integer.MAX_VALUE), -1);
        CHECK.due("worn(1)", d.worn(1), 2);
        d.play(0);
        CHECK.due("strikes(3) since", d.strikes(3), 2);
    }

    private static void images() {
        CarillonDesk d = new CarillonDesk();
        for (int place : new int[] {-1, 2, Integer.MAX_VALUE, Integer.MIN_VALUE}) {
            CHECK.due("image(" + place + ")", d.image(place), false);
            CHECK.due("back(" + place + ")", d.back(place), false);
        }
        CHECK.due("image(1)", d.image(1), true);
        CHECK.due("back(0)", d.back(0), false);
        CHECK.due("tail", d.tail(0, 20), 8);
        CHECK.due("image(0)", d.image(0), true);
        CHECK.due("tail", d.tail(0, 30), 20);
        CHECK.due("back(0)", d.back(0), true);
        CHECK.due("tail back", d.tail(0, 40), 20);
        CHECK.due("back(0) twice", d.back(0), true);
        CHECK.due("tail back twice", d.tail(0, 50), 20);
        CHECK.due("back(1)", d.back(1), true);
        CHECK.due("tail back at first", d.tail(0, 60), 8);
        CHECK.due("image(0) stays behind back(1)", d.back(0), true);
        CHECK.due("tail of image(0)", d.tail(0, 9), 20);
        CHECK.due("image(0) anew", d.image(0), true);
        d.back(1);
        d.back(0);
        CHECK.due("tail of the new image", d.tail(0, 8), 9);
        // The tape is no part of an image.
        Check.put(d, "b1 b2");
        d.image(0);
        CHECK.due("end(5) behind image", d.end(5), true);
        Check.score(d, "b3");
        Check.put(d, "b4 b5 b6");
        d.back(0);
        CHECK.due("the tape stays behind back", d.end(8), true);
        CHECK.due("score of it", d.score(), 3);
    }

    /** No call throws, whatever it is given: on an empty desk, one with a few STRIKES and a full one. */
    private static void anyArguments() {
        int[] odd = {Integer.MIN_VALUE, Integer.MIN_VALUE + 1, -1001, -2, -1, 0, 1, 2, 3, 23, 24, 25, 63, 64, 99, 100, 101,
            999, 1000, 2062, 2063, 2064, 4095, 4096, 10000, 10001, Integer.MAX_VALUE - 1, Integer.MAX_VALUE};
        for (String text : new String[] {"", "b1:1 (2 3 4):5", "t1 2:64 t22 23:36"}) {
            for (int a : odd) {
                CarillonDesk d = Check.desk(text);
                d.change();
                anyOne(d, a);
                for (int b : odd) {
                    d.strike(a, b);
                    d.fists(a, b);
                    d.tail(a, b);
                    d.pin(a, b);
                }
                anyOne(d, a);
            }
        }
    }

    private static void anyOne(CarillonDesk d, int a) {
        d.feed(a, a, a, a, a);
        d.end(a);
        d.fault(a);
        d.count(a);
        d.by(a);
        d.way(a);
        d.quarrel(a);
        d.sounds(a);
        d.drum(a);
        d.play(a);
        d.strikes(a);
        d.mend(a);
        d.worn(a);
        d.image(a);
        d.back(a);
        d.cost();
        d.need();
        d.quarrels();
        d.change();
        d.turn();
        d.pins();
        d.score();
    }
}
