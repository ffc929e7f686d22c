/** The edges that Terms III and promises 13 to 16 name: each sentence at the last value allowed and the first one not. */
public final class SoundEdgesTest {
    private static final Check CHECK = new Check("SoundEdgesTest");

    public static void main(String[] args) {
        tailRange();
        tailOfWhichBell();
        refusedTailDoesNothing();
        quarrelRange();
        quarrelsAtFirst();
        lessTwelves();
        upToTheNextStrike();
        otherBellsDontEndIt();
        behindTheEnd();
        bothSound();
        unlikeBells();
        countedForEachTwo();
        nothingAndFull();
        soundsOfWhich();
        CHECK.finish();
    }

    // Terms I: "Each has a TAIL (1 .. 60 ticks; 8 at first)."; promise 13: "what it was; NONE when .. it can't be."
    private static void tailRange() {
        for (int bell = 0; bell < 24; bell++) {
            CarillonDesk d = new CarillonDesk();
            CHECK.due("tail(" + bell + ", 1)", d.tail(bell, 1), 8);
            CHECK.due("tail(" + bell + ", 60)", d.tail(bell, 60), 1);
            CHECK.due("tail(" + bell + ", 0)", d.tail(bell, 0), -1);
            CHECK.due("tail(" + bell + ", 61)", d.tail(bell, 61), -1);
            CHECK.due("tail(" + bell + ", -1)", d.tail(bell, -1), -1);
            for (int ticks : Check.FAR) {
                CHECK.due("tail(" + bell + ", " + ticks + ")", d.tail(bell, ticks), -1);
            }
            CHECK.due("tail(" + bell + ", 60) again", d.tail(bell, 60), 60);
        }
    }

    // Promise 13: "NONE when there is none such"
    private static void tailOfWhichBell() {
        CarillonDesk d = new CarillonDesk();
        CHECK.due("tail(0, 9)", d.tail(0, 9), 8);
        CHECK.due("tail(23, 10)", d.tail(23, 10), 8);
        for (int bell : new int[] {-1, 24, 25, -24}) {
            CHECK.due("tail(" + bell + ", 9)", d.tail(bell, 9), -1);
        }
        for (int bell : Check.FAR) {
            CHECK.due("tail(" + bell + ", 9)", d.tail(bell, 9), -1);
        }
        CHECK.due("tail(24, 0)", d.tail(24, 0), -1);
        CHECK.due("the first BELL's own", d.tail(0, 8), 9);
        CHECK.due("the last BELL's own", d.tail(23, 8), 10);
        for (int bell = 1; bell < 23; bell++) {
            CHECK.due("BELL " + bell + "'s own", d.tail(bell, 8), 8);
        }
    }

    private static void refusedTailDoesNothing() {
        CarillonDesk d = Check.desk("b5");
        d.tail(5, 7);
        d.tail(5, 0);
        d.tail(5, 61);
        CHECK.due("sounds(0)", d.sounds(0), 7);
        CHECK.due("tail stays", d.tail(5, 8), 7);
    }

    // Promise 14: "Which half tones quarrel, as bits (0 .. 4095): what they were; NONE when that can't be."
    private static void quarrelRange() {
        CarillonDesk d = new CarillonDesk();
        CHECK.due("quarrel(0)", d.quarrel(0), 1 << 1 | 1 << 2 | 1 << 6 | 1 << 10 | 1 << 11);
        CHECK.due("quarrel(4095)", d.quarrel(4095), 0);
        CHECK.due("quarrel(4096)", d.quarrel(4096), -1);
        CHECK.due("quarrel(-1)", d.quarrel(-1), -1);
        for (int bits : Check.FAR) {
            CHECK.due("quarrel(" + bits + ")", d.quarrel(bits), -1);
        }
        CHECK.due("they stay", d.quarrel(1), 4095);
        CHECK.due("quarrel(1 << 11)", d.quarrel(1 << 11), 1);
        CHECK.due("quarrel(1 << 12)", d.quarrel(1 << 12), -1);
        Check.score(d, "(0 11)");
        CHECK.due("bit 11 stays", d.quarrels(), 8);
    }

    // Terms III: "(bits 0 .. 11; 1, 2, 6, 10 and 11 at first)"
    private static void quarrelsAtFirst() {
        for (int apart = 1; apart < 24; apart++) {
            int less = apart % 12;
            boolean quarrel = less == 1 || less == 2 || less == 6 || less == 10 || less == 11;
            CHECK.due(apart + " apart at first", Check.desk("(0 " + apart + ")").quarrels(), quarrel ? 8 : 0);
            CHECK.due(apart + " apart down", Check.desk("(23 " + (23 - apart) + ")").quarrels(), quarrel ? 8 : 0);
        }
    }

    // Terms III: "so many half tones as they are apart, less twelves"
    private static void lessTwelves() {
        int[][] apartAndBit = {{1, 1}, {11, 11}, {12, 0}, {13, 1}, {22, 10}, {23, 11}};
        for (int[] pair : apartAndBit) {
            CarillonDesk d = Check.desk("b0:1 b" + pair[0]);
            d.quarrel(1 << pair[1]);
            CHECK.due(pair[0] + " apart with bit " + pair[1], d.quarrels(), 7);
            d.quarrel(4095 - (1 << pair[1]));
            CHECK.due(pair[0] + " apart without bit " + pair[1], d.quarrels(), 0);
            Check.score(d, "b" + pair[0] + ":1 b0");
            d.quarrel(1 << pair[1]);
            CHECK.due(pair[0] + " apart, the higher one first", d.quarrels(), 7);
        }
    }

    // Terms III: "for its BELL's TAIL, but only up to the next STRIKE of its BELL"
    private static void upToTheNextStrike() {
        int[][] tailLengthSound = {{8, 7, 7}, {8, 8, 8}, {8, 9, 8}, {8, 1, 1}, {1, 1, 1}, {1, 2, 1}, {2, 1, 1},
            {60, 59, 59}, {60, 60, 60}, {60, 61, 60}, {60, 64, 60}};
        for (int[] t : tailLengthSound) {
            CarillonDesk d = Check.desk("b3:" + t[1] + " b3");
            d.tail(3, t[0]);
            CHECK.due("TAIL " + t[0] + ", next one " + t[1] + " later", d.sounds(0), t[2]);
            CHECK.due("the last one has its TAIL of " + t[0], d.sounds(1), t[0]);
        }
    }

    private static void otherBellsDontEndIt() {
        CarillonDesk d = Check.desk("b3:2 b4:2 b2:2 b3");
        CHECK.due("sounds(0)", d.sounds(0), 6);
        CHECK.due("sounds(1)", d.sounds(1), 8);
        CHECK.due("sounds(2)", d.sounds(2), 8);
        CHECK.due("sounds(3)", d.sounds(3), 8);
        // A STRIKE that no FIST can do is a STRIKE all the same.
        Check.score(d, "(3 4 5):3 (3 4 5)");
        CHECK.due("some are LEFT OUT", d.count(2), 2);
        CHECK.due("one that is LEFT OUT", d.sounds(2), 3);
    }

    private static void behindTheEnd() {
        CarillonDesk d = Check.desk("5x{6x{_:64}}_:64 _:15 (0 1):1");
        d.tail(0, 60);
        d.tail(1, 60);
        CHECK.due("sounds behind the SCORE's end", d.sounds(0), 60);
        CHECK.due("quarrels there", d.quarrels(), 60);
    }

    // Terms III: "quarrel for each tick in which both SOUND"
    private static void bothSound() {
        quarrels("b0:6 b1", 8, 8, 2);
        quarrels("b0:7 b1", 8, 8, 1);
        quarrels("b0:8 b1", 8, 8, 0);
        quarrels("b0:9 b1", 8, 8, 0);
        quarrels("(0 1)", 8, 8, 8);
        quarrels("(0 1)", 1, 60, 1);
        quarrels("(0 1)", 60, 1, 1);
        quarrels("(0 1)", 60, 60, 60);
        quarrels("(0 1)", 1, 1, 1);
        quarrels("b0:1 b1", 1, 60, 0);
        quarrels("b0:1 b1", 2, 60, 1);
        quarrels("b0:1 b1", 60, 1, 1);
        quarrels("b0:59 b1", 60, 60, 1);
        quarrels("b0:60 b1", 60, 60, 0);
        // The next STRIKE of its BELL ends a quarrel too, and begins another.
        quarrels("b0:2 b0:2 b1", 2, 8, 0);
        quarrels("b0:2 b1:2 b0", 8, 8, 8);
    }

    private static void quarrels(String text, int tailOf0, int tailOf1, int want) {
        CarillonDesk d = Check.desk(text);
        d.tail(0, tailOf0);
        d.tail(1, tailOf1);
        CHECK.due("quarrels() of " + text + " with " + tailOf0 + ", " + tailOf1, d.quarrels(), want);
    }

    // Terms III: "Two STRIKES of unlike BELLS"
    private static void unlikeBells() {
        CarillonDesk d = Check.desk("b0:1 b0:1 b0");
        d.quarrel(4095);
        CHECK.due("one BELL", d.quarrels(), 0);
        Check.score(d, "b0:1 b12");
        CHECK.due("its octave", d.quarrels(), 7);
    }

    // Promise 15: "How many ticks STRIKES quarrel in all, counted for each two."
    private static void countedForEachTwo() {
        CarillonDesk d = Check.desk("(0 1 2 3)");
        d.quarrel(4095);
        CHECK.due("six pairs", d.quarrels(), 48);
        d.quarrel(2);
        CHECK.due("three pairs", d.quarrels(), 24);
        d.quarrel(8);
        CHECK.due("one pair", d.quarrels(), 8);
        d.quarrel(0);
        CHECK.due("none", d.quarrels(), 0);
    }

    private static void nothingAndFull() {
        CHECK.due("quarrels() new", new CarillonDesk().quarrels(), 0);
        CHECK.due("quarrels() of silence", Check.desk("_").quarrels(), 0);
        CHECK.due("quarrels() of one", Check.desk("b1").quarrels(), 0);
        CarillonDesk d = Check.desk("5x{5x{(0 1 2 3):60}}");
        CHECK.due("a full SCORE", d.count(0), 100);
        d.quarrel(4095);
        for (int bell = 0; bell < 4; bell++) {
            d.tail(bell, 60);
        }
        CHECK.due("quarrels() of a full SCORE", d.quarrels(), 9000);
        Check.score(d, "5x{5x{(0 1 2 3):1}}");
        // 25 chords one tick apart: in each of the 24 + 60 ticks all four SOUND.
        CHECK.due("quarrels() of a full SCORE at once", d.quarrels(), 6 * 84);
        CHECK.due("the last one's", d.sounds(99), 60);
        CHECK.due("the one before's", d.sounds(95), 1);
    }

    // Promise 16: "How long STRIKE k SOUNDS; NONE when there is none such."
    private static void soundsOfWhich() {
        CarillonDesk d = new CarillonDesk();
        CHECK.due("sounds(0) of nothing", d.sounds(0), -1);
        CHECK.due("sounds(-1) of nothing", d.sounds(-1), -1);
        Check.score(d, "b1:1 b2:2");
        CHECK.due("sounds(0)", d.sounds(0), 8);
        CHECK.due("sounds(1)", d.sounds(1), 8);
        CHECK.due("sounds(2)", d.sounds(2), -1);
        CHECK.due("sounds(-1)", d.sounds(-1), -1);
        for (int k : Check.FAR) {
            CHECK.due("sounds(" + k + ")", d.sounds(k), -1);
        }
        Check.score(d, "t1 2:64 t1 2:36");
        CHECK.due("sounds(99) of a full SCORE", d.sounds(99), 8);
        CHECK.due("sounds(100) of a full SCORE", d.sounds(100), -1);
    }
}
