import java.util.Arrays;
import java.util.Random;

/** Promises 8 to 12: THE SETTING, against all SETTINGS of small SCORES and a second reckoning of great ones. */
public final class SettingTest {
    private static final Check CHECK = new Check("SettingTest");
    private static final int NEVER = 1 << 28;

    public static void main(String[] args) {
        empty();
        fistsThatCantBe();
        edges();
        needs();
        settledAnew();
        againstAllSettings();
        againstSecondReckoning();
        CHECK.finish();
    }

    private static void empty() {
        CarillonDesk d = new CarillonDesk();
        CHECK.due("cost()", d.cost(), 0);
        CHECK.due("need()", d.need(), 1);
        CHECK.due("by(0)", d.by(0), -1);
        CHECK.due("way(0)", d.way(0), 0);
        CHECK.due("way(1)", d.way(1), 0);
        CHECK.due("way(2)", d.way(2), -1);
        CHECK.due("way(-1)", d.way(-1), -1);
    }

    private static void fistsThatCantBe() {
        CarillonDesk d = new CarillonDesk();
        Check.score(d, "(0 1):1 (5 6)");
        CHECK.due("cost at first", d.cost(), 104);
        int[][] wrong = {{0, 0}, {25, 0}, {-1, 0}, {24, -1}, {24, 10001}, {Integer.MIN_VALUE, 5}, {5, Integer.MAX_VALUE}, {0, -1}};
        for (int[] w : wrong) {
            CHECK.due("fists(" + w[0] + "," + w[1] + ")", d.fists(w[0], w[1]), false);
            CHECK.due("cost behind it", d.cost(), 104);
        }
        CHECK.due("fists(24, 10000)", d.fists(24, 10000), true);
        CHECK.due("cost", d.cost(), 10);
        CHECK.due("fists(1, 10000)", d.fists(1, 10000), true);
        CHECK.due("cost", d.cost(), 20000);
        CHECK.due("fists(1, 0)", d.fists(1, 0), true);
        CHECK.due("cost", d.cost(), 0);
        CHECK.due("by(0)", d.by(0), 0);
        CHECK.due("by(1)", d.by(1), 1);
        CHECK.due("by(2)", d.by(2), 2);
        CHECK.due("by(-1)", d.by(-1), -1);
        CHECK.due("by(4)", d.by(4), -1);
        CHECK.due("by(max)", d.by(Integer.MAX_VALUE), -1);
    }

    private static void edges() {
        setting("b0:1 b4", 4, 100, "01", 0, 0);
        setting("b5", 4, 0, "0", 0, 0);
        setting("(3 4)", 4, 100, "01", 0, 0);
        setting("(3 4 5 6)", 4, 7, "0122", 14, 2);
        setting("b5:1 b5 b5", 4, 0, "000", 0, 0);
        setting("(0 23):1 (0 23)", 1, 100, "0101", 0, 0);
        setting("b0:64 b23:1 b0:1", 1, 1, "010", 0, 0);
    }

    private static void setting(String text, int reach, int price, String want, int cost, int leftOut) {
        CarillonDesk d = Check.desk(text);
        d.fists(reach, price);
        String got = Check.setting(d);
        CHECK.due("setting of " + text + " " + got, got.equals(want), true);
        CHECK.due("cost of " + text, d.cost(), cost);
        CHECK.due("left out of " + text, d.count(2), leftOut);
    }

    private static void needs() {
        need("b0", 1);
        need("(0 23):1 (0 23)", 1);
        need("(0 23):1 (22 23)", 22);
        need("(0 1):1 (22 23)", 22);
        need("(0 1):2 (22 23)", 11);
        need("(0 1):3 (22 23)", 8);
        need("(0 1):64 (22 23)", 1);
        need("(0 22):1 (1 23)", 1);
        need("(0 1 2)", -1);
        need("b0 (0 1 2) b3", -1);
        CarillonDesk d = new CarillonDesk();
        Check.score(d, "(0 1):1 (12 13)");
        int cost = d.cost();
        CHECK.due("need()", d.need(), 12);
        CHECK.due("REACH stays", d.cost(), cost);
        CHECK.due("fists", d.fists(11, 100), true);
        CHECK.due("left out with one less", d.count(2) > 0, true);
        CHECK.due("fists", d.fists(12, 100), true);
        CHECK.due("left out with so much", d.count(2), 0);
        CHECK.due("need() again", d.need(), 12);
    }

    private static void need(String text, int want) {
        CarillonDesk d = new CarillonDesk();
        Check.score(d, text);
        CHECK.due("need of " + text, d.need(), want);
    }

    /** THE SETTING follows each of the calls that it hangs on. */
    private static void settledAnew() {
        CarillonDesk d = new CarillonDesk();
        Check.score(d, "(0 1):1 (12 13)");
        CHECK.due("cost", d.cost(), 200);
        d.image(0);
        d.fists(12, 100);
        CHECK.due("cost behind fists", d.cost(), 24);
        Check.score(d, "b1");
        CHECK.due("cost behind score", d.cost(), 0);
        CHECK.due("by behind score", d.by(1), -1);
        Check.score(d, "b1 c");
        CHECK.due("cost behind a FAULT", d.cost(), 0);
        d.back(0);
        CHECK.due("cost behind back", d.cost(), 200);
        CHECK.due("by(2) behind back", d.by(2), 2);
        CHECK.due("way(0) behind back", d.way(0), 0);
    }

    private static void againstAllSettings() {
        Random r = new Random(11);
        for (int i = 0; i < 3000; i++) {
            String text = randomText(r, 1 + r.nextInt(5), 9);
            CarillonDesk d = new CarillonDesk();
            int n = Check.score(d, text);
            if (n < 0 || n > 9) {
                continue;
            }
            int reach = 1 + r.nextInt(r.nextBoolean() ? 3 : 24);
            int price = r.nextInt(4) == 0 ? 100 : r.nextInt(12);
            d.fists(reach, price);
            checkAll(d, n, reach, price, text + " with " + reach + ", " + price);
        }
    }

    private static void checkAll(CarillonDesk d, int n, int reach, int price, String what) {
        int[] tick = Check.row(d, 0);
        int[] bell = Check.row(d, 1);
        int all = 1;
        for (int k = 0; k < n; k++) {
            all *= 3;
        }
        int best = NEVER;
        int[] bestBy = new int[n];
        int need = NEVER;
        for (int s = 0; s < all; s++) {
            // Numbered with the first STRIKE as the highest digit, so in the order that the document tells.
            int[] by = new int[n];
            int rest = s;
            for (int k = n - 1; k >= 0; k--) {
                by[k] = rest % 3;
                rest /= 3;
            }
            int[] costAndReach = price(by, tick, bell, price);
            if (costAndReach[1] <= reach && costAndReach[0] < best) {
                best = costAndReach[0];
                bestBy = by;
            }
            if (Arrays.stream(by).noneMatch(b -> b == 2)) {
                need = Math.min(need, costAndReach[1]);
            }
        }
        checkSetting(d, bestBy, best, bell, what);
        CHECK.due("need of " + what, d.need(), need <= 24 ? need : -1);
    }

    /** The cost of a SETTING and the REACH that it takes (NEVER if it can't be at all). */
    private static int[] price(int[] by, int[] tick, int[] bell, int price) {
        int cost = 0;
        int reach = 1;
        for (int k = 0; k < by.length; k++) {
            if (by[k] == 2) {
                cost += price;
                continue;
            }
            int before = k - 1;
            while (before >= 0 && by[before] != by[k]) {
                before--;
            }
            if (before >= 0) {
                int went = Math.abs(bell[k] - bell[before]);
                cost += went;
                int least = 1;
                while (least < 30 && went > least * (tick[k] - tick[before])) {
                    least++;
                }
                reach = tick[k] == tick[before] ? NEVER : Math.max(reach, least);
            }
            for (int j = 0; j < by.length; j++) {
                if (tick[j] == tick[k] && by[k] == 0 && by[j] == 1 && bell[k] >= bell[j]) {
                    reach = NEVER;
                }
            }
            if (reach == NEVER) {
                return new int[] {NEVER, NEVER};
            }
        }
        return new int[] {cost, reach};
    }

    private static void checkSetting(CarillonDesk d, int[] by, int cost, int[] bell, String what) {
        CHECK.due("cost of " + what, d.cost(), cost);
        int[] way = new int[2];
        int[] last = {-1, -1};
        int left = 0;
        for (int k = 0; k < by.length; k++) {
            CHECK.due("by(" + k + ") of " + what, d.by(k), by[k]);
            if (by[k] == 2) {
                left++;
                continue;
            }
            way[by[k]] += last[by[k]] < 0 ? 0 : Math.abs(bell[k] - last[by[k]]);
            last[by[k]] = bell[k];
        }
        CHECK.due("left out of " + what, d.count(2), left);
        CHECK.due("way(0) of " + what, d.way(0), way[0]);
        CHECK.due("way(1) of " + what, d.way(1), way[1]);
        CHECK.due("play(0) of " + what, d.play(0), by.length - left);
    }

    private static void againstSecondReckoning() {
        Random r = new Random(13);
        int great = 0;
        for (int i = 0; i < 120; i++) {
            String text = randomText(r, 20 + r.nextInt(60), 1000);
            CarillonDesk d = new CarillonDesk();
            int n = Check.score(d, text);
            if (n < 0) {
                continue;
            }
            great = Math.max(great, n);
            int reach = 1 + r.nextInt(r.nextBoolean() ? 4 : 24);
            int price = r.nextInt(3) == 0 ? 10000 : r.nextInt(20);
            d.fists(reach, price);
            byPlaces(d, n, reach, price, text + " with " + reach + ", " + price);
        }
        CHECK.due("a great SCORE came up (" + great + ")", great > 90, true);
    }

    /** Reckons STRIKE by STRIKE from the last one on, over all pairs of last STRIKES. */
    private static void byPlaces(CarillonDesk d, int n, int reach, int price, String what) {
        int[] tick = Check.row(d, 0);
        int[] bell = Check.row(d, 1);
        int[][][] rest = new int[n + 1][n + 1][n + 1];
        for (int k = n - 1; k >= 0; k--) {
            for (int l = 0; l <= k; l++) {
                for (int r = 0; r <= k; r++) {
                    int found = price + rest[k + 1][l][r];
                    int byLeft = r > 0 && tick[r - 1] == tick[k] ? NEVER : step(l - 1, k, tick, bell, reach);
                    found = Math.min(found, byLeft + rest[k + 1][k + 1][r]);
                    found = Math.min(found, step(r - 1, k, tick, bell, reach) + rest[k + 1][l][k + 1]);
                    rest[k][l][r] = found;
                }
            }
        }
        int[] by = new int[n];
        int l = 0;
        int r = 0;
        for (int k = 0; k < n; k++) {
            int byLeft = r > 0 && tick[r - 1] == tick[k] ? NEVER : step(l - 1, k, tick, bell, reach);
            if (byLeft + rest[k + 1][k + 1][r] == rest[k][l][r]) {
                l = k + 1;
            } else if (step(r - 1, k, tick, bell, reach) + rest[k + 1][l][k + 1] == rest[k][l][r]) {
                by[k] = 1;
                r = k + 1;
            } else {
                by[k] = 2;
            }
        }
        checkSetting(d, by, rest[0][0][0], bell, what);
        needByTrying(d, what);
    }

    private static void needByTrying(CarillonDesk d, String what) {
        int need = d.need();
        int found = -1;
        for (int reach = 24; reach >= 1; reach--) {
            d.fists(reach, 10000);
            if (d.count(2) == 0) {
                found = reach;
            }
        }
        CHECK.due("need of " + what, need, found);
    }

    private static int step(int from, int k, int[] tick, int[] bell, int reach) {
        if (from < 0) {
            return 0;
        }
        int went = Math.abs(bell[k] - bell[from]);
        return tick[k] > tick[from] && went <= reach * (tick[k] - tick[from]) ? went : NEVER;
    }

    private static String randomText(Random r, int items, int most) {
        StringBuilder s = new StringBuilder();
        int size = 0;
        int bells = r.nextBoolean() ? 24 : 6;
        boolean thick = r.nextInt(3) == 0;
        for (int i = 0; i < items && size < Math.min(most, 96); i++) {
            int kind = r.nextInt(thick ? 4 : 10);
            if (kind < 3) {
                int n = kind == 2 && thick ? 3 : 2;
                int base = r.nextInt(bells - 3);
                s.append('(').append(base + 2).append(' ').append(base);
                s.append(n == 3 ? " " + (base + 3) : "").append(')');
                size += n;
            } else if (kind == 3) {
                s.append('_');
            } else {
                s.append('b').append(r.nextInt(bells));
                size++;
            }
            s.append(':').append(1 + r.nextInt(r.nextInt(4) == 0 ? 8 : 2)).append(' ');
        }
        return s.toString();
    }
}
