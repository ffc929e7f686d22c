import java.util.ArrayList;
import java.util.List;
import java.util.function.Supplier;
import java.util.function.ToLongFunction;

/** All that can be asked of a desk, as one text: two desks that tell the same are in the same state. */
final class Told {
    /** A desk answers for 512 calls; what is left of these is for making it. */
    private static final int ASKED_OF_ONE = 300;

    /** The supplier makes the same desk anew each time, with some 200 calls at the most. */
    static String of(Supplier<CarillonDesk> made, int steps) {
        List<ToLongFunction<CarillonDesk>> questions = questions(steps);
        StringBuilder all = new StringBuilder();
        CarillonDesk desk = null;
        for (int i = 0; i < questions.size(); i++) {
            if (i % ASKED_OF_ONE == 0) {
                desk = made.get();
            }
            all.append(questions.get(i).applyAsLong(desk)).append(' ');
        }
        return all.toString();
    }

    private static List<ToLongFunction<CarillonDesk>> questions(int steps) {
        List<ToLongFunction<CarillonDesk>> all = new ArrayList<>();
        all.add(d -> d.cost());
        all.add(d -> d.need());
        all.add(d -> d.quarrels());
        all.add(d -> d.turn());
        all.add(d -> d.pins());
        for (int i = 0; i < 3; i++) {
            int what = i;
            all.add(d -> d.count(what));
            all.add(d -> d.fault(what));
            all.add(d -> d.way(what));
        }
        for (int i = 0; i < 100; i++) {
            int k = i;
            all.add(d -> d.strike(k, 0));
            all.add(d -> d.strike(k, 1));
            all.add(d -> d.by(k));
            all.add(d -> d.sounds(k));
        }
        for (int i = 0; i < 24; i++) {
            int bell = i;
            all.add(d -> d.strikes(bell));
        }
        for (int i = 0; i <= steps; i++) {
            for (int j = 0; j < 24; j++) {
                int step = i;
                int bell = j;
                all.add(d -> d.pin(step, bell));
            }
        }
        // These change what they tell, so each is asked only once, and behind all others.
        all.add(d -> d.quarrel(0));
        for (int i = 0; i < 24; i++) {
            int bell = i;
            all.add(d -> d.tail(bell, 1));
        }
        return all;
    }

    private Told() {
    }
}
