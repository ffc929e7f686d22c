import java.lang.management.ManagementFactory;

/** All calls of one run live in one room: a desk is small, images are made once, and no other call makes anything. */
public final class RoomTest {
    private static final Check CHECK = new Check("RoomTest");
    // The numbers are some way above what is made, as a machine may lay out objects in another way.
    private static final long DESK = 80000;
    private static final long IMAGE = 8000;
    private static final com.sun.management.ThreadMXBean THREADS =
        (com.sun.management.ThreadMXBean) ManagementFactory.getThreadMXBean();
    // With 100 STRIKES, so that every row is used from end to end.
    private static final String TEXT = "t0 23:64 9x{(1 5 9 13):1}";

    private static long sum = 0;

    public static void main(String[] args) {
        // The first time the machine itself loads what it needs.
        CarillonDesk first = new CarillonDesk();
        run(first);
        long begin = made();
        CarillonDesk desk = new CarillonDesk();
        long ofDesk = made() - begin;
        begin = made();
        desk.image(0);
        desk.image(1);
        long ofImages = made() - begin;
        begin = made();
        run(desk);
        long ofCalls = made() - begin;
        CHECK.due("a desk is small (" + ofDesk + " bytes)", ofDesk <= DESK, true);
        CHECK.due("two images are small (" + ofImages + " bytes)", ofImages <= 2 * IMAGE, true);
        CHECK.due("other calls make nothing (" + ofCalls + " bytes)", ofCalls <= 1000, true);
        CHECK.due("the calls answered (" + sum + ")", sum != 0, true);
        CHECK.finish();
    }

    private static long made() {
        return THREADS.getCurrentThreadAllocatedBytes();
    }

    /** Nearly 500 calls, each kind of them among these. */
    private static void run(CarillonDesk d) {
        for (int round = 0; round < 7; round++) {
            CHECK.due("score()", Check.score(d, TEXT), 100);
            CHECK.due("score() with a FAULT", Check.score(d, "b1 ("), -1);
            add(d.fists(1 + round, round));
            for (int i = -1; i < 3; i++) {
                add(d.fault(i));
                add(d.count(i));
                add(d.way(i));
                add(d.play(i));
                add(d.image(i));
                add(d.strike(i * 20, 1));
                add(d.by(i * 20));
                add(d.sounds(i * 20));
                add(d.tail(i, 3 + i));
                add(d.strikes(i));
                add(d.mend(i));
                add(d.worn(i));
                add(d.pin(i, i));
            }
            add(d.cost() + d.need() + d.quarrels() + d.quarrel(round));
            add(d.drum(64 + 20 * round));
            add(d.change() + d.turn() + d.pins());
            add(d.back(round % 3));
        }
    }

    private static void add(boolean answer) {
        add(answer ? 1 : 0);
    }

    private static void add(long answer) {
        sum = sum * 31 + answer;
    }
}
