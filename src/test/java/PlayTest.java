import java.util.ArrayList;
import java.util.List;

/** Promises 1 and 22 to 27: playing, clappers, images; and a run of 512 calls with arguments of all kinds. */
public final class PlayTest {
    private static final Check CHECK = new Check("PlayTest");

    public static void main(String[] args) {
        newDesk();
        playing();
        clappers();
        images();
        imageKeepsAll();
        anyArguments();
        CHECK.finish();
    }

    private static void newDesk() {
        CarillonDesk d = new CarillonDesk();
        CHECK.due("play(0)", d.play(0), 0);
        CHECK.due("play(1)", d.play(1), 0);
        for (int bell = 0; bell < 24; bell++) {
            CHECK.due("strikes", d.strikes(bell), 0);
        }
        CHECK.due("worn(1)", d.worn(1), 0);
        CHECK.due("back(0)", d.back(0), false);
        CHECK.due("back(1)", d.back(1), false);
        CHECK.due("score() of an empty tape", d.score(), 0);
        CHECK.due("STEPS", d.pin(63, 0), 0);
        CHECK.due("STEPS", d.pin(64, 0), -1);
        Check.score(d, "(0 1):1 (5 6):1");
        CHECK.due("first REACH is 4, first PRICE 100", d.cost(), 104);
    }

    private static void playing() {
        CarillonDesk d = new CarillonDesk();
        Check.score(d, "(0 5 9):2 b5");
        CHECK.due("play(0)", d.play(0), 3);
        CHECK.due("strikes(0)", d.strikes(0), 1);
        CHECK.due("strikes(5)", d.strikes(5), 2);
        CHECK.due("strikes(9) left out", d.strikes(9), 0);
        CHECK.due("play(1) without pins", d.play(1), 0);
        d.change();
        CHECK.due("play(1)", d.play(1), 4);
        CHECK.due("strikes(5)", d.strikes(5), 4);
        CHECK.due("strikes(9)", d.strikes(9), 1);
        Check.score(d, "b1");
        CHECK.due("play(1) is not the SCORE", d.play(1), 4);
        CHECK.due("play(0)", d.play(0), 1);
        CHECK.due("play(2)", d.play(2), -1);
        CHECK.due("play(-1)", d.play(-1), -1);
        CHECK.due("play(max)", d.play(Integer.MAX_VALUE), -1);
        CHECK.due("strikes(1)", d.strikes(1), 1);
    }

    private static void clappers() {
        CarillonDesk d = new CarillonDesk();
        Check.score(d, "t3 4:3 b23");
        d.play(0);
        d.play(0);
        CHECK.due("worn(1)", d.worn(1), 3);
        CHECK.due("worn(2)", d.worn(2), 3);
        CHECK.due("worn(3)", d.worn(3), 1);
        CHECK.due("worn(4)", d.worn(4), 1);
        CHECK.due("worn(5)", d.worn(5), 0);
        CHECK.due("worn(0)", d.worn(0), -1);
        CHECK.due("worn(-1)", d.worn(-1), -1);
        CHECK.due("worn(min)", d.worn(Integer.MIN_VALUE), -1);
        CHECK.due("worn(max)", d.worn(Integer.MAX_VALUE), 0);
        CHECK.due("mend(3)", d.mend(3), 4);
        CHECK.due("strikes(3)", d.strikes(3), 0);
        CHECK.due("strikes(4)", d.strikes(4), 2);
        CHECK.due("mend(3) again", d.mend(3), 0);
        CHECK.due("mend(24)", d.mend(24), -1);
        CHECK.due("mend(-1)", d.mend(-1), -1);
        CHECK.due("strikes(24)", d.strikes(24), -1);
        CHECK.due("strikes(-1)", d.strikes(-1), -1);
        CHECK.due("strikes(max)", d.strikes(Integer.MAX_VALUE), -1);
        CHECK.due("worn(1)", d.worn(1), 2);
        d.play(0);
        CHECK.due("strikes(3) since", d.strikes(3), 2);
    }

    private static void images() {
        CarillonDesk d = new CarillonDesk();
        for (int place : new int[] {-1, 2, Integer.MAX_VALUE, Integer.MIN_VALUE}) {
            CHECK.due("image(" + place + ")", d.image(place), false);
            CHECK.due("back(" + place + ")", d.back(place), false);
        }
        CHECK.due("image(1)", d.image(1), true);
        CHECK.due("back(0)", d.back(0), false);
        CHECK.due("tail", d.tail(0, 20), 8);
        CHECK.due("image(0)", d.image(0), true);
        CHECK.due("tail", d.tail(0, 30), 20);
        CHECK.due("back(0)", d.back(0), true);
        CHECK.due("tail back", d.tail(0, 40), 20);
        CHECK.due("back(0) twice", d.back(0), true);
        CHECK.due("tail back twice", d.tail(0, 50), 20);
        CHECK.due("back(1)", d.back(1), true);
        CHECK.due("tail back at first", d.tail(0, 60), 8);
        CHECK.due("image(0) stays behind back(1)", d.back(0), true);
        CHECK.due("tail of image(0)", d.tail(0, 9), 20);
        CHECK.due("image(0) anew", d.image(0), true);
        d.back(1);
        d.back(0);
        CHECK.due("tail of the new image", d.tail(0, 8), 9);
        // The tape is no part of an image.
        Check.put(d, "b1 b2");
        d.image(0);
        CHECK.due("end(5) behind image", d.end(5), true);
        Check.score(d, "b3");
        Check.put(d, "b4 b5 b6");
        d.back(0);
        CHECK.due("the tape stays behind back", d.end(8), true);
        CHECK.due("score of it", d.score(), 3);
    }

    /** Two unlike desks' whole tellings, changed and brought back. */
    private static void imageKeepsAll() {
        CarillonDesk d = new CarillonDesk();
        String atFirst = told(d);
        d.image(1);
        Check.score(d, "(0 1 5):3 t7 9:5 2x{b3 b4:2}");
        d.fists(2, 3);
        d.tail(7, 33);
        d.quarrel(77);
        d.drum(40);
        d.change();
        Check.score(d, "_:1 (0 1 5):3 t7 9:5 b8");
        d.change();
        d.play(1);
        d.play(0);
        d.mend(9);
        Check.score(d, "b1 b77");
        d.image(0);
        String second = told(d);
        CHECK.due("told unlike", atFirst.equals(second), false);
        d.back(1);
        CHECK.due("first is back", told(d).equals(atFirst), true);
        d.play(1);
        d.back(0);
        CHECK.due("second is back", told(d).equals(second), true);
        Check.score(d, "b1");
        d.fists(24, 0);
        d.drum(2063);
        d.change();
        d.play(0);
        for (int bell = 0; bell < 24; bell++) {
            d.tail(bell, 1);
            d.mend(bell);
        }
        d.quarrel(4095);
        d.back(0);
        CHECK.due("second is back again", told(d).equals(second), true);
        d.back(1);
        CHECK.due("first is back again", told(d).equals(atFirst), true);
    }

    /** All that can be asked of a desk without changing it (tails and quarrels are put back). */
    private static String told(CarillonDesk d) {
        List<Long> all = new ArrayList<>();
        for (int what = 0; what < 3; what++) {
            all.add((long) d.count(what));
            all.add((long) d.fault(what));
            all.add((long) d.way(what));
        }
        for (int k = 0; k < 100; k++) {
            all.add((long) d.strike(k, 0));
            all.add((long) d.strike(k, 1));
            all.add((long) d.by(k));
            all.add((long) d.sounds(k));
        }
        for (int bell = 0; bell < 24; bell++) {
            int tail = d.tail(bell, 1);
            d.tail(bell, tail);
            all.add((long) tail);
            all.add(d.strikes(bell));
        }
        int bits = d.quarrel(0);
        d.quarrel(bits);
        all.add((long) bits);
        all.add((long) d.quarrels());
        all.add((long) d.cost());
        all.add((long) d.need());
        all.add((long) d.turn());
        all.add((long) d.pins());
        for (int step = 0; step < 2064; step++) {
            for (int bell = 0; bell < 24; bell++) {
                all.add((long) d.pin(step, bell));
            }
        }
        return all.toString().substring(1);
    }

    /** No call throws, whatever it is given. */
    private static void anyArguments() {
        int[] odd = {Integer.MIN_VALUE, Integer.MIN_VALUE + 1, -1001, -2, -1, 0, 1, 2, 3, 23, 24, 25, 63, 64, 99, 100, 101,
            999, 1000, 2062, 2063, 2064, 4095, 4096, 10000, 10001, Integer.MAX_VALUE - 1, Integer.MAX_VALUE};
        for (int round = 0; round < 3; round++) {
            CarillonDesk d = new CarillonDesk();
            if (round > 0) {
                Check.score(d, round == 1 ? "b1:1 (2 3 4):5" : "t1 2:64 t22 23:36");
                d.change();
            }
            for (int a : odd) {
                d.feed(a, a, a, a, a);
                d.end(a);
                d.fault(a);
                d.count(a);
                d.by(a);
                d.way(a);
                d.quarrel(a);
                d.sounds(a);
                d.drum(a);
                d.play(a);
                d.strikes(a);
                d.mend(a);
                d.worn(a);
                d.image(a);
                d.back(a);
                for (int b : odd) {
                    d.strike(a, b);
                    d.fists(a, b);
                    d.tail(a, b);
                    d.pin(a, b);
                }
                d.cost();
                d.need();
                d.quarrels();
                d.change();
                d.turn();
                d.pins();
                d.score();
            }
        }
    }
}
