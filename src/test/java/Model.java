import java.util.ArrayList;
import java.util.Arrays;
import java.util.HashMap;
import java.util.List;
import java.util.Map;
import java.util.TreeSet;

/**
 * The whole desk once more, written from the document in the plainest way and slowly: RunsTest holds the class to it.
 * It shares no way of reckoning with the class: lengths by places of the text, THE SETTING from the first STRIKE on,
 * sounds tick by tick, pins as a set, every TURN tried.
 */
final class Model {
    /** A PRICE for which nothing is LEFT OUT. */
    private static final int NEVER = -1;

    private StringBuilder tape = new StringBuilder();
    private State now = new State();
    private final State[] kept = new State[2];
    private List<int[]> askedStrikes = null;
    private int askedReach;
    private int askedPrice;
    private String answered;

    /** All but the tape and images. */
    private static final class State {
        List<int[]> strikes = new ArrayList<>();
        int behind = 0;
        int[] fault = {0, -1};
        int reach = 4;
        int price = 100;
        int[] tails = new int[24];
        boolean[] quarrels = new boolean[12];
        int steps = 64;
        TreeSet<Integer> pins = new TreeSet<>();
        int turn = -1;
        long[] struck = new long[24];

        State() {
            Arrays.fill(tails, 8);
            for (int halfTones : new int[] {1, 2, 6, 10, 11}) {
                quarrels[halfTones] = true;
            }
        }

        State copy() {
            State c = new State();
            c.strikes = new ArrayList<>(strikes);
            c.behind = behind;
            c.fault = fault.clone();
            c.reach = reach;
            c.price = price;
            c.tails = tails.clone();
            c.quarrels = quarrels.clone();
            c.steps = steps;
            c.pins = new TreeSet<>(pins);
            c.turn = turn;
            c.struck = struck.clone();
            return c;
        }
    }

    int feed(int... numbers) {
        if (tape.length() + 20 > 1000) {
            return -1;
        }
        for (int number : numbers) {
            String digits = String.format("%08x", number);
            for (int i = 0; i < 8; i += 2) {
                tape.append((char) Integer.parseInt(digits.substring(i, i + 2), 16));
            }
        }
        return tape.length();
    }

    boolean end(int n) {
        if (n < 0 || n > tape.length()) {
            return false;
        }
        tape.setLength(n);
        return true;
    }

    int score() {
        Text text = new Text(tape.toString());
        tape = new StringBuilder();
        try {
            text.items(0);
        } catch (Fault fault) {
            now.fault = new int[] {fault.kind, fault.place};
            return -1;
        }
        now.fault = new int[] {0, -1};
        now.strikes = text.strikes;
        now.strikes.sort((a, b) -> a[0] != b[0] ? a[0] - b[0] : a[1] - b[1]);
        now.behind = text.tick;
        return now.strikes.size();
    }

    int fault(int what) {
        return what == 0 || what == 1 ? now.fault[what] : -1;
    }

    int strike(int k, int what) {
        return has(k) && (what == 0 || what == 1) ? now.strikes.get(k)[what] : -1;
    }

    int count(int what) {
        if (what == 0) {
            return now.strikes.size();
        }
        if (what == 1) {
            return now.behind;
        }
        return what == 2 ? (int) setting().chars().filter(who -> who == '2').count() : -1;
    }

    boolean fists(int reach, int price) {
        if (reach < 1 || reach > 24 || price < 0 || price > 10000) {
            return false;
        }
        now.reach = reach;
        now.price = price;
        return true;
    }

    int cost() {
        return way(0) + way(1) + count(2) * now.price;
    }

    int need() {
        for (int reach = 1; reach <= 24; reach++) {
            if (best(reach, NEVER) != null) {
                return reach;
            }
        }
        return -1;
    }

    int by(int k) {
        return has(k) ? setting().charAt(k) - '0' : -1;
    }

    int way(int fist) {
        if (fist != 0 && fist != 1) {
            return -1;
        }
        String setting = setting();
        int sum = 0;
        int at = -1;
        for (int k = 0; k < setting.length(); k++) {
            if (setting.charAt(k) - '0' == fist) {
                int bell = now.strikes.get(k)[1];
                sum += at < 0 ? 0 : Math.abs(bell - at);
                at = bell;
            }
        }
        return sum;
    }

    int tail(int bell, int ticks) {
        if (!isBell(bell) || ticks < 1 || ticks > 60) {
            return -1;
        }
        int was = now.tails[bell];
        now.tails[bell] = ticks;
        return was;
    }

    int quarrel(int bits) {
        if (bits < 0 || bits > 4095) {
            return -1;
        }
        int was = 0;
        for (int i = 11; i >= 0; i--) {
            was = was * 2 + (now.quarrels[i] ? 1 : 0);
            now.quarrels[i] = (bits / (1 << i)) % 2 == 1;
        }
        return was;
    }

    int quarrels() {
        int sum = 0;
        for (int tick = 0; tick < 2200; tick++) {
            int[] sounding = new int[24];
            for (int k = 0; k < now.strikes.size(); k++) {
                sounding[now.strikes.get(k)[1]] += soundsAt(k, tick) ? 1 : 0;
            }
            for (int low = 0; low < 24; low++) {
                for (int high = low + 1; high < 24; high++) {
                    sum += now.quarrels[(high - low) % 12] ? sounding[low] * sounding[high] : 0;
                }
            }
        }
        return sum;
    }

    int sounds(int k) {
        if (!has(k)) {
            return -1;
        }
        int sum = 0;
        for (int tick = 0; tick < 2200; tick++) {
            sum += soundsAt(k, tick) ? 1 : 0;
        }
        return sum;
    }

    private boolean soundsAt(int k, int tick) {
        int[] strike = now.strikes.get(k);
        if (tick < strike[0] || tick >= strike[0] + now.tails[strike[1]]) {
            return false;
        }
        for (int[] other : now.strikes) {
            if (other[1] == strike[1] && other[0] > strike[0] && other[0] <= tick) {
                return false;
            }
        }
        return true;
    }

    boolean drum(int steps) {
        if (steps < 1 || steps > 2063) {
            return false;
        }
        now.steps = steps;
        now.pins = new TreeSet<>();
        now.turn = -1;
        return true;
    }

    int change() {
        for (int[] strike : now.strikes) {
            if (strike[0] >= now.steps) {
                return -1;
            }
        }
        int fewest = Integer.MAX_VALUE;
        TreeSet<Integer> best = null;
        for (int s = 0; s < now.steps; s++) {
            TreeSet<Integer> pins = new TreeSet<>();
            int put = 0;
            for (int[] strike : now.strikes) {
                int pin = (strike[0] + s) % now.steps * 24 + strike[1];
                pins.add(pin);
                put += now.pins.contains(pin) ? 0 : 1;
            }
            if (put < fewest) {
                fewest = put;
                best = pins;
                now.turn = s;
            }
        }
        now.pins = best;
        return fewest;
    }

    int turn() {
        return now.turn;
    }

    int pin(int step, int bell) {
        if (step < 0 || step >= now.steps || !isBell(bell)) {
            return -1;
        }
        return now.pins.contains(step * 24 + bell) ? 1 : 0;
    }

    int pins() {
        return now.pins.size();
    }

    int play(int how) {
        int sum = 0;
        if (how == 0) {
            String setting = setting();
            for (int k = 0; k < setting.length(); k++) {
                if (setting.charAt(k) != '2') {
                    now.struck[now.strikes.get(k)[1]]++;
                    sum++;
                }
            }
            return sum;
        }
        if (how == 1) {
            for (int pin : now.pins) {
                now.struck[pin % 24]++;
                sum++;
            }
            return sum;
        }
        return -1;
    }

    long strikes(int bell) {
        return isBell(bell) ? now.struck[bell] : -1;
    }

    long mend(int bell) {
        if (!isBell(bell)) {
            return -1;
        }
        long was = now.struck[bell];
        now.struck[bell] = 0;
        return was;
    }

    int worn(int n) {
        return n < 1 ? -1 : (int) Arrays.stream(now.struck).filter(often -> often >= n).count();
    }

    boolean image(int place) {
        if (place != 0 && place != 1) {
            return false;
        }
        kept[place] = now.copy();
        return true;
    }

    boolean back(int place) {
        if (place != 0 && place != 1 || kept[place] == null) {
            return false;
        }
        now = kept[place].copy();
        return true;
    }

    int steps() {
        return now.steps;
    }

    /** A pin at a step or behind it, as step * 24 + BELL, so that a test can ask for one; -1 if there is none. */
    int pinAfter(int step) {
        Integer pin = step < 0 || step >= now.steps ? null : now.pins.ceiling(step * 24);
        return pin == null ? -1 : pin;
    }

    private boolean has(int k) {
        return k >= 0 && k < now.strikes.size();
    }

    private static boolean isBell(int bell) {
        return bell >= 0 && bell <= 23;
    }

    private String setting() {
        // A list of STRIKES is never changed once it stands, and equal lists have the very same STRIKES in them.
        if (!now.strikes.equals(askedStrikes) || askedReach != now.reach || askedPrice != now.price) {
            askedStrikes = now.strikes;
            askedReach = now.reach;
            askedPrice = now.price;
            answered = best(now.reach, now.price);
        }
        return answered;
    }

    /** A beginning of a SETTING: where the FISTS are, what it cost, who struck. */
    private record Begun(int left, int right, int cost, String who) {
        boolean isBefore(Begun other) {
            return other == null || cost < other.cost || cost == other.cost && who.compareTo(other.who) < 0;
        }
    }

    /** Goes from the first STRIKE on, with the best beginning for each two places of the FISTS; null: there is none. */
    private String best(int reach, int price) {
        Map<Integer, Begun> all = new HashMap<>();
        all.put(0, new Begun(-1, -1, 0, ""));
        for (int k = 0; k < now.strikes.size(); k++) {
            Map<Integer, Begun> next = new HashMap<>();
            for (Begun b : all.values()) {
                int[] strike = now.strikes.get(k);
                boolean rightIsHere = b.right >= 0 && now.strikes.get(b.right)[0] == strike[0];
                int byLeft = rightIsHere ? -1 : wentTo(b.left, k, reach);
                int byRight = wentTo(b.right, k, reach);
                if (price != NEVER) {
                    offer(next, new Begun(b.left, b.right, b.cost + price, b.who + "2"));
                }
                if (byLeft >= 0) {
                    offer(next, new Begun(k, b.right, b.cost + byLeft, b.who + "0"));
                }
                if (byRight >= 0) {
                    offer(next, new Begun(b.left, k, b.cost + byRight, b.who + "1"));
                }
            }
            all = next;
        }
        Begun best = null;
        for (Begun b : all.values()) {
            best = b.isBefore(best) ? b : best;
        }
        return best == null ? null : best.who;
    }

    private static void offer(Map<Integer, Begun> all, Begun b) {
        int where = (b.left + 1) * 101 + b.right + 1;
        if (b.isBefore(all.get(where))) {
            all.put(where, b);
        }
    }

    private int wentTo(int from, int to, int reach) {
        if (from < 0) {
            return 0;
        }
        int later = now.strikes.get(to)[0] - now.strikes.get(from)[0];
        int went = Math.abs(now.strikes.get(to)[1] - now.strikes.get(from)[1]);
        return later >= 1 && went <= later * reach ? went : -1;
    }

    private static final class Fault extends RuntimeException {
        private static final long serialVersionUID = 1;
        final int kind;
        final int place;

        Fault(int kind, int place) {
            super(null, null, false, false);
            this.kind = kind;
            this.place = place;
        }
    }

    /** A text that is gone through; each method takes a place and answers the place behind what it read. */
    private static final class Text {
        private final String all;
        final List<int[]> strikes = new ArrayList<>();
        int tick = 0;
        private final Map<Integer, Integer> lengthOf = new HashMap<>();
        private int newest = 4;
        private int value;

        Text(String all) {
            this.all = all;
        }

        void items(int from) {
            int at = body(from, 0);
            if (at < all.length()) {
                throw new Fault(1, at);
            }
        }

        /** ITEMS and groups up to what is neither; answers its place. */
        private int body(int from, int open) {
            int at = blanks(from);
            while (at < all.length() && "b(_t0123456789".indexOf(all.charAt(at)) >= 0) {
                at = blanks(isDigit(at) ? group(at, open) : item(at));
            }
            return at;
        }

        private int group(int from, int open) {
            int at = number(from, 1, 9);
            int rounds = value;
            at = blanks(sign(at, 'x'));
            if (open == 4 && at < all.length() && all.charAt(at) == '{') {
                throw new Fault(3, at);
            }
            int inside = sign(at, '{');
            int behind = inside;
            for (int i = 0; i < rounds; i++) {
                int before = tick;
                behind = sign(body(inside, open + 1), '}');
                if (tick == before) {
                    // Rounds that make nothing go on making nothing; some texts have thousands of them.
                    return behind;
                }
            }
            return behind;
        }

        private int item(int from) {
            if (tick > 1999) {
                throw new Fault(4, from);
            }
            char kind = all.charAt(from);
            List<Integer> bells = new ArrayList<>();
            int at = from + 1;
            if (kind == 'b') {
                at = bell(at, bells);
            } else if (kind == 't') {
                at = bell(bell(at, bells), bells);
            } else if (kind == '(') {
                at = blanks(bell(at, bells));
                while (at >= all.length() || all.charAt(at) != ')') {
                    at = blanks(bell(at, bells));
                }
                at++;
            }
            at = length(from, at);
            int length = lengthOf.get(from);
            if (kind == 't') {
                for (int i = 0; i < length; i++) {
                    strikes.add(new int[] {tick + i, bells.get(i % 2)});
                }
            } else {
                for (int bell : bells) {
                    strikes.add(new int[] {tick, bell});
                }
            }
            if (strikes.size() > 100) {
                throw new Fault(4, from);
            }
            tick += length;
            return at;
        }

        /** An ITEM has one LENGTH wherever it comes up: what it tells, or that of the ITEM that came up new before it. */
        private int length(int item, int from) {
            int at = blanks(from);
            boolean told = at < all.length() && all.charAt(at) == ':';
            if (told) {
                at = number(at + 1, 1, 64);
            }
            if (!lengthOf.containsKey(item)) {
                newest = told ? value : newest;
                lengthOf.put(item, newest);
            }
            return at;
        }

        private int bell(int from, List<Integer> bells) {
            int at = number(from, 0, 23);
            if (bells.contains(value) || bells.size() == 4) {
                throw new Fault(2, blanks(from));
            }
            bells.add(value);
            return at;
        }

        private int number(int from, int low, int high) {
            int first = blanks(from);
            int at = first;
            while (isDigit(at)) {
                at++;
                if (at == first + 4) {
                    throw new Fault(1, at - 1);
                }
            }
            if (at == first) {
                throw new Fault(1, at);
            }
            value = Integer.parseInt(all.substring(first, at));
            if (value < low || value > high) {
                throw new Fault(2, first);
            }
            return at;
        }

        private int sign(int from, char due) {
            int at = blanks(from);
            if (at >= all.length() || all.charAt(at) != due) {
                throw new Fault(1, at);
            }
            return at + 1;
        }

        private int blanks(int from) {
            int at = from;
            while (at < all.length() && (all.charAt(at) == 10 || all.charAt(at) == 32)) {
                at++;
            }
            return at;
        }

        private boolean isDigit(int at) {
            return at < all.length() && all.charAt(at) >= '0' && all.charAt(at) <= '9';
        }
    }
}
