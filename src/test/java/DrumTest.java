import java.util.ArrayList;
import java.util.List;
import java.util.Random;

/** Promises 17 to 21: THE DRUM and its pins, also against a try of every TURN. */
public final class DrumTest {
    private static final Check CHECK = new Check("DrumTest");

    public static void main(String[] args) {
        newDrum();
        stepsThatCantBe();
        turning();
        refused();
        greatest();
        againstEveryTurn();
        CHECK.finish();
    }

    private static void newDrum() {
        CarillonDesk d = new CarillonDesk();
        CHECK.due("pins()", d.pins(), 0);
        CHECK.due("turn()", d.turn(), -1);
        CHECK.due("pin(63, 23)", d.pin(63, 23), 0);
        CHECK.due("pin(64, 0)", d.pin(64, 0), -1);
        CHECK.due("pin(-1, 0)", d.pin(-1, 0), -1);
        CHECK.due("pin(0, -1)", d.pin(0, -1), -1);
        CHECK.due("pin(0, 24)", d.pin(0, 24), -1);
        CHECK.due("pin(max, max)", d.pin(Integer.MAX_VALUE, Integer.MAX_VALUE), -1);
        CHECK.due("pin(min, min)", d.pin(Integer.MIN_VALUE, Integer.MIN_VALUE), -1);
        CHECK.due("change() to nothing", d.change(), 0);
        CHECK.due("turn() behind it", d.turn(), 0);
    }

    private static void stepsThatCantBe() {
        CarillonDesk d = new CarillonDesk();
        Check.score(d, "b1:3 b2");
        CHECK.due("change()", d.change(), 2);
        for (int steps : new int[] {0, -1, 2064, Integer.MAX_VALUE, Integer.MIN_VALUE}) {
            CHECK.due("drum(" + steps + ")", d.drum(steps), false);
            CHECK.due("pins stay", d.pins(), 2);
            CHECK.due("turn stays", d.turn(), 0);
            CHECK.due("STEPS stay", d.pin(63, 0), 0);
            CHECK.due("STEPS stay", d.pin(64, 0), -1);
        }
        CHECK.due("drum(64)", d.drum(64), true);
        CHECK.due("pins go", d.pins(), 0);
        CHECK.due("pin goes", d.pin(0, 1), 0);
        CHECK.due("turn goes", d.turn(), -1);
        CHECK.due("drum(1)", d.drum(1), true);
        CHECK.due("pin(1, 0)", d.pin(1, 0), -1);
        CHECK.due("pin(0, 0)", d.pin(0, 0), 0);
    }

    private static void turning() {
        CarillonDesk d = new CarillonDesk();
        d.drum(10);
        Check.score(d, "b1:3 b2:3 b3");
        CHECK.due("change()", d.change(), 3);
        Check.score(d, "b3:4 b1:3 b5");
        CHECK.due("change() keeps two", d.change(), 1);
        CHECK.due("turn()", d.turn(), 6);
        CHECK.due("pins()", d.pins(), 3);
        CHECK.due("pin(6, 3)", d.pin(6, 3), 1);
        CHECK.due("pin(0, 1)", d.pin(0, 1), 1);
        CHECK.due("pin(3, 5)", d.pin(3, 5), 1);
        CHECK.due("pin(3, 2) went", d.pin(3, 2), 0);
        // Of two TURNS that keep one pin each, the lesser one.
        Check.score(d, "b1:1 b3");
        CHECK.due("change() keeps one", d.change(), 1);
        CHECK.due("turn() is the least", d.turn(), 0);
        Check.score(d, "b1:2 b3");
        CHECK.due("change() again", d.change(), 1);
        CHECK.due("turn() again", d.turn(), 0);
        Check.score(d, "b9");
        CHECK.due("change() keeps none", d.change(), 1);
        CHECK.due("turn() without any kept", d.turn(), 0);
        CHECK.due("pins()", d.pins(), 1);
        Check.score(d, "");
        CHECK.due("change() to nothing", d.change(), 0);
        CHECK.due("pins() of nothing", d.pins(), 0);
    }

    private static void refused() {
        CarillonDesk d = new CarillonDesk();
        d.drum(5);
        Check.score(d, "_:1 b1:3 b2:64");
        CHECK.due("change() with a STRIKE at the last step", d.change(), 2);
        Check.score(d, "_:1 b2:1");
        CHECK.due("change()", d.change(), 0);
        CHECK.due("turn()", d.turn(), 3);
        Check.score(d, "b1:5 b2");
        CHECK.due("change() with a STRIKE behind it", d.change(), -1);
        CHECK.due("turn stays", d.turn(), 3);
        CHECK.due("pins stay", d.pins(), 1);
        CHECK.due("pin stays", d.pin(4, 2), 1);
        // Only STRIKES count, not where the last ITEM ends.
        Check.score(d, "b1:4 _:64 _");
        CHECK.due("change()", d.change(), 1);
    }

    private static void greatest() {
        CarillonDesk d = new CarillonDesk();
        Check.score(d, "5x{6x{_:64}}_:64 _:15 t1 2:64");
        CHECK.due("last tick", d.strike(63, 0), 2062);
        d.drum(2062);
        CHECK.due("change() on 2062", d.change(), -1);
        d.drum(2063);
        CHECK.due("change() on 2063", d.change(), 64);
        CHECK.due("pin(2062, 2)", d.pin(2062, 2), 1);
        CHECK.due("pin(2063, 2)", d.pin(2063, 2), -1);
        Check.score(d, "t1 2:64");
        CHECK.due("change()", d.change(), 0);
        CHECK.due("turn()", d.turn(), 1999);
    }

    private static void againstEveryTurn() {
        Random r = new Random(19);
        for (int i = 0; i < 300; i++) {
            int steps = 1 + r.nextInt(i % 10 == 0 ? 2063 : 30);
            int turn = -1;
            boolean[][] pins = new boolean[steps][24];
            List<String> texts = new ArrayList<>();
            while (texts.size() < 6) {
                String text = randomText(r, steps, 2 + r.nextInt(5));
                CarillonDesk scored = new CarillonDesk();
                if (Check.score(scored, text) < 0) {
                    continue;
                }
                // Made anew for each text, as a desk answers for 512 calls.
                CarillonDesk d = pinned(steps, texts);
                Check.score(d, text);
                turn = checkChange(d, Check.row(scored, 0), Check.row(scored, 1), pins, turn);
                checkPins(d, pins);
                texts.add(text);
            }
        }
    }

    private static CarillonDesk pinned(int steps, List<String> texts) {
        CarillonDesk d = new CarillonDesk();
        d.drum(steps);
        for (String text : texts) {
            Check.score(d, text);
            d.change();
        }
        return d;
    }

    private static int checkChange(CarillonDesk d, int[] tick, int[] bell, boolean[][] pins, int turn) {
        int steps = pins.length;
        int n = tick.length;
        if (n > 0 && tick[n - 1] >= steps) {
            CHECK.due("change()", d.change(), -1);
            CHECK.due("turn()", d.turn(), turn);
            return turn;
        }
        int most = -1;
        int best = 0;
        for (int s = 0; s < steps; s++) {
            int kept = 0;
            for (int k = 0; k < n; k++) {
                kept += pins[(tick[k] + s) % steps][bell[k]] ? 1 : 0;
            }
            if (kept > most) {
                most = kept;
                best = s;
            }
        }
        for (int s = 0; s < steps; s++) {
            pins[s] = new boolean[24];
        }
        for (int k = 0; k < n; k++) {
            pins[(tick[k] + best) % steps][bell[k]] = true;
        }
        CHECK.due("change()", d.change(), n - most);
        CHECK.due("turn()", d.turn(), best);
        return best;
    }

    private static void checkPins(CarillonDesk d, boolean[][] pins) {
        int all = 0;
        for (int s = 0; s < pins.length; s++) {
            for (int bell = 0; bell < 24; bell++) {
                if (pins[s][bell]) {
                    all++;
                    CHECK.due("pin(" + s + "," + bell + ")", d.pin(s, bell), 1);
                    CHECK.due("pin(" + s + "," + (23 - bell) + ")", d.pin(s, 23 - bell), pins[s][23 - bell] ? 1 : 0);
                }
            }
        }
        CHECK.due("pins()", d.pins(), all);
    }

    private static String randomText(Random r, int steps, int bells) {
        StringBuilder s = new StringBuilder();
        int tick = 0;
        int most = steps + (r.nextInt(5) == 0 ? 3 : 0);
        while (tick < most && s.length() < 600) {
            int length = 1 + r.nextInt(4);
            int kind = r.nextInt(4);
            s.append(kind == 0 ? "_" : kind == 1 ? "(0 1)" : "b" + r.nextInt(bells)).append(':').append(length).append(' ');
            tick += length;
        }
        return s.toString();
    }
}
