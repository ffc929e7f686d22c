import java.util.Random;

/** Promises 13 to 16: tails, quarrels, and how long STRIKES SOUND, also against a count tick by tick. */
public final class SoundTest {
    private static final Check CHECK = new Check("SoundTest");

    public static void main(String[] args) {
        tails();
        quarrelBits();
        sounding();
        againstTicks();
        CHECK.finish();
    }

    private static void tails() {
        CarillonDesk d = new CarillonDesk();
        for (int bell = 0; bell < 24; bell++) {
            CHECK.due("tail at first", d.tail(bell, 60), 8);
            CHECK.due("tail of 60", d.tail(bell, 1), 60);
        }
        CHECK.due("tail(-1, 1)", d.tail(-1, 1), -1);
        CHECK.due("tail(24, 1)", d.tail(24, 1), -1);
        CHECK.due("tail(min, 1)", d.tail(Integer.MIN_VALUE, 1), -1);
        CHECK.due("tail(0, 0)", d.tail(0, 0), -1);
        CHECK.due("tail(0, -5)", d.tail(0, -5), -1);
        CHECK.due("tail(23, 61)", d.tail(23, 61), -1);
        CHECK.due("tail(23, max)", d.tail(23, Integer.MAX_VALUE), -1);
        CHECK.due("tail stays", d.tail(0, 2), 1);
        CHECK.due("tail stays", d.tail(23, 2), 1);
    }

    private static void quarrelBits() {
        CarillonDesk d = new CarillonDesk();
        CHECK.due("bits at first", d.quarrel(0), 2 + 4 + 64 + 1024 + 2048);
        CHECK.due("quarrel(4095)", d.quarrel(4095), 0);
        CHECK.due("quarrel(4096)", d.quarrel(4096), -1);
        CHECK.due("quarrel(-1)", d.quarrel(-1), -1);
        CHECK.due("quarrel(max)", d.quarrel(Integer.MAX_VALUE), -1);
        CHECK.due("quarrel(min)", d.quarrel(Integer.MIN_VALUE), -1);
        CHECK.due("bits stay", d.quarrel(1), 4095);
        CHECK.due("quarrels of nothing", d.quarrels(), 0);
        for (int apart = 1; apart < 24; apart++) {
            CarillonDesk two = Check.desk("(0 " + apart + ")");
            for (int bit = 0; bit < 12; bit++) {
                two.quarrel(1 << bit);
                CHECK.due("quarrels " + apart + " apart, bit " + bit, two.quarrels(), apart % 12 == bit ? 8 : 0);
            }
        }
    }

    private static void sounding() {
        CarillonDesk d = new CarillonDesk();
        CHECK.due("sounds(0) of nothing", d.sounds(0), -1);
        Check.score(d, "b0:3 b1:5 b0:8 b0:9 b0");
        int[] want = {8, 8, 8, 8, 8};
        for (int k = 0; k < 5; k++) {
            CHECK.due("sounds(" + k + ")", d.sounds(k), want[k]);
        }
        d.tail(0, 60);
        int[] longer = {8, 8, 8, 9, 60};
        for (int k = 0; k < 5; k++) {
            CHECK.due("sounds(" + k + ") of 60", d.sounds(k), longer[k]);
        }
        CHECK.due("sounds(5)", d.sounds(5), -1);
        CHECK.due("sounds(-1)", d.sounds(-1), -1);
        CHECK.due("sounds(max)", d.sounds(Integer.MAX_VALUE), -1);
        d.tail(0, 1);
        CHECK.due("sounds of 1", d.sounds(4), 1);
        // What is LEFT OUT in THE SETTING is a STRIKE all the same.
        Check.score(d, "(5 6 7 8)");
        d.quarrel(2);
        CHECK.due("left out", d.count(2), 2);
        CHECK.due("quarrels of four", d.quarrels(), 24);
    }

    private static void againstTicks() {
        Random r = new Random(17);
        for (int i = 0; i < 2000; i++) {
            CarillonDesk d = new CarillonDesk();
            String text = randomText(r);
            int n = Check.score(d, text);
            int bits = r.nextInt(4096);
            int[] tails = new int[24];
            d.quarrel(bits);
            for (int bell = 0; bell < 24; bell++) {
                tails[bell] = 1 + r.nextInt(r.nextBoolean() ? 60 : 5);
                d.tail(bell, tails[bell]);
            }
            check(d, n, bits, tails, text);
        }
    }

    private static void check(CarillonDesk d, int n, int bits, int[] tails, String text) {
        int behind = 2200;
        int[] tickOf = Check.row(d, 0);
        int[] bellOf = Check.row(d, 1);
        int[] length = new int[n];
        int quarrels = 0;
        // One SOUND at most of each BELL in each tick, as a STRIKE ends the one before.
        int[] sounding = new int[24];
        int[] until = new int[24];
        int next = 0;
        for (int tick = 0; tick < behind; tick++) {
            while (next < n && tickOf[next] == tick) {
                int bell = bellOf[next];
                sounding[bell] = next;
                until[bell] = tick + tails[bell];
                next++;
            }
            for (int a = 0; a < 24; a++) {
                if (until[a] <= tick) {
                    continue;
                }
                length[sounding[a]]++;
                for (int b = a + 1; b < 24; b++) {
                    quarrels += until[b] > tick ? bits >> (b - a) % 12 & 1 : 0;
                }
            }
        }
        for (int k = 0; k < n; k++) {
            CHECK.due("sounds(" + k + ") of " + text, d.sounds(k), length[k]);
        }
        CHECK.due("quarrels of " + text, d.quarrels(), quarrels);
    }

    private static String randomText(Random r) {
        StringBuilder s = new StringBuilder();
        for (int size = 0; size < 90; size += 4) {
            switch (r.nextInt(4)) {
                case 0 -> s.append("b").append(r.nextInt(24));
                case 1 -> s.append("(").append(r.nextInt(8)).append(' ').append(8 + r.nextInt(16)).append(")");
                case 2 -> s.append("_");
                default -> s.append("t").append(r.nextInt(8)).append(' ').append(8 + r.nextInt(16)).append(":4");
            }
            if (!s.toString().endsWith(":4")) {
                s.append(':').append(1 + r.nextInt(r.nextInt(5) == 0 ? 64 : 6));
            }
            s.append('\n');
        }
        return s.toString();
    }
}
