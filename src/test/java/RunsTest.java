import java.util.Random;

/** Long runs of all calls in any order, with arguments on both sides of every edge: the class answers as Model does. */
public final class RunsTest {
    private static final Check CHECK = new Check("RunsTest");
    private static final int RUNS = 250;
    private static final int CALLS = 512;
    private static final int KINDS = 30;

    private final Random random;
    private final CarillonDesk desk = new CarillonDesk();
    private final Model model = new Model();
    private final String name;
    private int calls = 0;

    private static final int[] SEEN = new int[KINDS];
    private static final int[] FAULTS = new int[5];
    private static int greatest = 0;

    public static void main(String[] args) {
        for (int i = 0; i < RUNS; i++) {
            new RunsTest(i).run();
        }
        for (int kind = 0; kind < KINDS; kind++) {
            CHECK.due("calls of kind " + kind + " came up often (" + SEEN[kind] + ")", SEEN[kind] > 500, true);
        }
        for (int kind = 0; kind < 5; kind++) {
            CHECK.due("FAULT " + kind + " came up often (" + FAULTS[kind] + ")", FAULTS[kind] > 100, true);
        }
        CHECK.due("a SCORE of nearly 100 STRIKES came up (" + greatest + ")", greatest > 95, true);
        CHECK.finish();
    }

    private RunsTest(int seed) {
        random = new Random(seed);
        name = "run " + seed;
    }

    private void run() {
        // A SCORE in most runs soon, as most calls ask for it.
        text();
        // One part makes some sixty calls at the most.
        while (calls < CALLS - 70) {
            part();
        }
        while (calls < CALLS - 2) {
            one(4 + random.nextInt(KINDS - 4));
        }
    }

    private void part() {
        int kind = random.nextInt(60);
        if (kind < 3) {
            text();
        } else if (kind == 3) {
            odd();
        } else if (kind == 4) {
            settingOfSome();
        } else if (kind == 5) {
            newTune();
        } else {
            one(random.nextInt(KINDS));
        }
    }

    /** A text goes on the tape as it should, and is read. */
    private void text() {
        one(0);
        String text = Texts.any(random);
        for (int at = 0; at < text.length(); at += 20) {
            feed(Check.word(text, at), Check.word(text, at + 4), Check.word(text, at + 8), Check.word(text, at + 12), Check.word(text, at + 16));
        }
        end(text.length());
        score(text);
    }

    /** The tape is fed with more, now and then with too much, cut anywhere, and read. */
    private void odd() {
        for (int n = random.nextInt(4) == 0 ? 52 : 1; n > 0; n--) {
            one(2);
        }
        end(random.nextInt(1050));
        score("what is there");
    }

    private void settingOfSome() {
        int from = random.nextInt(100);
        for (int k = from; k < from + 15; k++) {
            due("by(" + k + ")", desk.by(k), model.by(k));
        }
    }

    /** THE DRUM is changed from tune to tune. */
    private void newTune() {
        int steps = 1 + random.nextInt(random.nextBoolean() ? 100 : 2063);
        due("drum(" + steps + ")", desk.drum(steps), model.drum(steps));
        change();
        text();
        change();
    }

    private void change() {
        due("change()", desk.change(), model.change());
        due("turn()", desk.turn(), model.turn());
        due("pins()", desk.pins(), model.pins());
    }

    private void feed(int a, int b, int c, int d, int e) {
        due("feed", desk.feed(a, b, c, d, e), model.feed(a, b, c, d, e));
    }

    private void end(int n) {
        due("end(" + n + ")", desk.end(n), model.end(n));
    }

    private void score(String text) {
        int n = desk.score();
        due("score() of " + text, n, model.score());
        greatest = Math.max(greatest, n);
        int kind = desk.fault(0);
        due("fault(0)", kind, model.fault(0));
        due("fault(1)", desk.fault(1), model.fault(1));
        FAULTS[kind < 0 || kind > 4 ? 0 : kind]++;
    }

    private void due(String call, long got, long want) {
        calls++;
        CHECK.due(name + ", call " + calls + ": " + call, got, want);
    }

    private void due(String call, boolean got, boolean want) {
        due(call, got ? 1 : 0, want ? 1 : 0);
    }

    /** Mostly from low to high, now and then one beside them or far out. */
    private int some(int low, int high) {
        int kind = random.nextInt(12);
        if (kind == 0) {
            return low - 1;
        }
        if (kind == 1) {
            return high + 1;
        }
        if (kind == 2) {
            return random.nextBoolean() ? low : high;
        }
        if (kind == 3 && random.nextInt(4) == 0) {
            return random.nextInt(3) > 0 ? random.nextInt() : Check.FAR[random.nextInt(4)];
        }
        return low + random.nextInt(high - low + 1);
    }

    private void one(int kind) {
        SEEN[kind]++;
        if (kind < 15) {
            ofScore(kind);
        } else {
            ofTower(kind);
        }
    }

    private void ofScore(int kind) {
        int k = some(0, model.count(0));
        switch (kind) {
            case 0, 1 -> due("end(0)", desk.end(0), model.end(0));
            case 2 -> feed(random.nextInt(), 0x62312062, 0x322D2020 ^ random.nextInt(1 << 8) << 16, 0x20202020, random.nextInt());
            case 3 -> end(some(0, 40));
            case 4, 5 -> {
                int what = some(0, 1);
                due("strike(" + k + ", " + what + ")", desk.strike(k, what), model.strike(k, what));
            }
            case 6 -> {
                int what = some(0, 1);
                due("fault(" + what + ")", desk.fault(what), model.fault(what));
            }
            case 7 -> {
                int what = some(0, 2);
                due("count(" + what + ")", desk.count(what), model.count(what));
            }
            case 8 -> {
                int reach = random.nextBoolean() ? some(1, 24) : some(1, 3);
                int price = random.nextInt(3) == 0 ? some(0, 10000) : random.nextInt(20);
                due("fists(" + reach + ", " + price + ")", desk.fists(reach, price), model.fists(reach, price));
            }
            case 9 -> due("cost()", desk.cost(), model.cost());
            case 10 -> due("need()", desk.need(), model.need());
            case 11, 12 -> due("by(" + k + ")", desk.by(k), model.by(k));
            case 13 -> {
                int fist = some(0, 1);
                due("way(" + fist + ")", desk.way(fist), model.way(fist));
            }
            default -> due("sounds(" + k + ")", desk.sounds(k), model.sounds(k));
        }
    }

    private void ofTower(int kind) {
        int bell = some(0, 23);
        switch (kind) {
            case 15, 16 -> {
                int ticks = some(1, 60);
                due("tail(" + bell + ", " + ticks + ")", desk.tail(bell, ticks), model.tail(bell, ticks));
            }
            case 17 -> {
                int bits = some(0, 4095);
                due("quarrel(" + bits + ")", desk.quarrel(bits), model.quarrel(bits));
            }
            case 18 -> due("quarrels()", desk.quarrels(), model.quarrels());
            case 19 -> {
                int steps = random.nextInt(3) == 0 ? some(1, 2063) : some(1, 100);
                due("drum(" + steps + ")", desk.drum(steps), model.drum(steps));
            }
            case 20 -> change();
            case 21 -> due("turn()", desk.turn(), model.turn());
            case 22 -> pin(bell);
            case 23 -> due("pins()", desk.pins(), model.pins());
            case 24 -> {
                int how = some(0, 1);
                due("play(" + how + ")", desk.play(how), model.play(how));
            }
            case 25 -> due("strikes(" + bell + ")", desk.strikes(bell), model.strikes(bell));
            case 26 -> due("mend(" + bell + ")", desk.mend(bell), model.mend(bell));
            case 27 -> {
                int n = some(1, 30);
                due("worn(" + n + ")", desk.worn(n), model.worn(n));
            }
            case 28 -> {
                int place = some(0, 1);
                due("image(" + place + ")", desk.image(place), model.image(place));
            }
            default -> {
                int place = some(0, 1);
                due("back(" + place + ")", desk.back(place), model.back(place));
            }
        }
    }

    /** Half of the time where there is a pin, or a step beside it. */
    private void pin(int bell) {
        int step = some(0, model.steps() - 1);
        int pin = model.pinAfter(step);
        if (random.nextBoolean() && pin >= 0) {
            step = pin / 24 + random.nextInt(3) - 1;
            bell = pin % 24;
        }
        due("pin(" + step + ", " + bell + ")", desk.pin(step, bell), model.pin(step, bell));
    }
}
