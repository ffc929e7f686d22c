/**
 * A desk for a tower full of bells: scores told by a text, set for two fists with the least moving
 * that there is, bells that sound on and quarrel, a drum whose pins are changed from tune to tune
 * with the fewest moved, clappers that wear.
 */
public final class CarillonDesk {
    public static final int NONE = -1;

    private static final int BELLS = 24;
    private static final int MOST_BYTES = 1000;
    private static final int MOST_STRIKES = 100;
    private static final int MOST_STEPS = 2063;
    private static final int MOST_REACH = 24;
    private static final int MOST_PRICE = 10000;
    private static final int MOST_TAIL = 60;
    private static final int ALL_QUARRELS = 4095;
    private static final int FIRST_QUARRELS = 1 << 1 | 1 << 2 | 1 << 6 | 1 << 10 | 1 << 11;
    private static final int PLACES = 2;
    private static final int FISTS = 2;
    private static final int LEFT = 0;
    private static final int RIGHT = 1;
    private static final int LEFT_OUT = 2;

    private final Tape tape;
    private final Reader reader;
    private final Matter now;
    private final Matter[] images;
    private final Setting setting;
    private final Need least;
    private final Turns turns;
    private boolean settled;

    public CarillonDesk() {
        tape = new Tape();
        reader = new Reader(tape);
        now = new Matter();
        images = new Matter[PLACES];
        setting = new Setting(now.music);
        least = new Need(now.music);
        turns = new Turns();
        settled = false;
    }

    public int feed(int a, int b, int c, int d, int e) {
        if (!tape.hasRoom()) {
            return NONE;
        }
        tape.addNumber(a);
        tape.addNumber(b);
        tape.addNumber(c);
        tape.addNumber(d);
        tape.addNumber(e);
        return tape.size;
    }

    public boolean end(int n) {
        if (n < 0 || n > tape.size) {
            return false;
        }
        tape.size = n;
        return true;
    }

    public int score() {
        boolean read = reader.readAll();
        tape.size = 0;
        now.faultKind = reader.faultKind;
        now.faultPlace = reader.faultPlace;
        if (!read) {
            return NONE;
        }
        now.music.copyFrom(reader.draft);
        settled = false;
        return now.music.size;
    }

    public int fault(int what) {
        switch (what) {
            case 0:
                return now.faultKind;
            case 1:
                return now.faultPlace;
            default:
                return NONE;
        }
    }

    public int strike(int k, int what) {
        if (!now.music.has(k)) {
            return NONE;
        }
        switch (what) {
            case 0:
                return now.music.ticks[k];
            case 1:
                return now.music.bells[k];
            default:
                return NONE;
        }
    }

    public int count(int what) {
        switch (what) {
            case 0:
                return now.music.size;
            case 1:
                return now.music.behind;
            case 2:
                return theSetting().leftOut;
            default:
                return NONE;
        }
    }

    public boolean fists(int reach, int price) {
        if (reach < 1 || reach > MOST_REACH || price < 0 || price > MOST_PRICE) {
            return false;
        }
        now.reach = reach;
        now.price = price;
        settled = false;
        return true;
    }

    public int cost() {
        return theSetting().total;
    }

    public int need() {
        return least.leastReach();
    }

    public int by(int k) {
        if (!now.music.has(k)) {
            return NONE;
        }
        return theSetting().who[k];
    }

    public int way(int fist) {
        if (fist != LEFT && fist != RIGHT) {
            return NONE;
        }
        return theSetting().gone[fist];
    }

    public int tail(int bell, int ticks) {
        if (!isBell(bell) || ticks < 1 || ticks > MOST_TAIL) {
            return NONE;
        }
        int before = now.tones.tails[bell];
        now.tones.tails[bell] = ticks;
        return before;
    }

    public int quarrel(int bits) {
        if (bits < 0 || bits > ALL_QUARRELS) {
            return NONE;
        }
        int before = now.tones.quarrelBits;
        now.tones.quarrelBits = bits;
        return before;
    }

    public int quarrels() {
        return now.tones.quarrelTicks(now.music);
    }

    public int sounds(int k) {
        if (!now.music.has(k)) {
            return NONE;
        }
        return now.tones.soundLength(now.music, k);
    }

    public boolean drum(int steps) {
        if (steps < 1 || steps > MOST_STEPS) {
            return false;
        }
        now.barrel.renew(steps);
        return true;
    }

    public int change() {
        if (!now.barrel.fits(now.music)) {
            return NONE;
        }
        turns.find(now.barrel, now.music);
        now.barrel.pinDown(now.music, turns.best);
        return now.music.size - turns.mostKept;
    }

    public int turn() {
        return now.barrel.latestTurn;
    }

    public int pin(int step, int bell) {
        if (step < 0 || step >= now.barrel.steps || !isBell(bell)) {
            return NONE;
        }
        return now.barrel.hasPin(step, bell) ? 1 : 0;
    }

    public int pins() {
        return now.barrel.size;
    }

    public int play(int how) {
        switch (how) {
            case 0:
                return now.clappers.playByFists(now.music, theSetting());
            case 1:
                return now.clappers.playByDrum(now.barrel);
            default:
                return NONE;
        }
    }

    public long strikes(int bell) {
        if (!isBell(bell)) {
            return NONE;
        }
        return now.clappers.struck[bell];
    }

    public long mend(int bell) {
        if (!isBell(bell)) {
            return NONE;
        }
        long before = now.clappers.struck[bell];
        now.clappers.struck[bell] = 0;
        return before;
    }

    public int worn(int n) {
        if (n < 1) {
            return NONE;
        }
        return now.clappers.wornAt(n);
    }

    public boolean image(int place) {
        if (place < 0 || place >= PLACES) {
            return false;
        }
        Matter kept = images[place];
        // Made at first need and then used again, so that a desk without images stays small.
        if (kept == null) {
            kept = new Matter();
            images[place] = kept;
        }
        kept.copyFrom(now);
        return true;
    }

    public boolean back(int place) {
        if (place < 0 || place >= PLACES) {
            return false;
        }
        Matter kept = images[place];
        if (kept == null) {
            return false;
        }
        now.copyFrom(kept);
        settled = false;
        return true;
    }

    private static boolean isBell(int bell) {
        return bell >= 0 && bell < BELLS;
    }

    // Kept between calls, as a run asks by(k) for many k of one SETTING.
    private Setting theSetting() {
        if (!settled) {
            setting.settle(now.reach, now.price);
            settled = true;
        }
        return setting;
    }

    /** All that an image keeps. */
    private static final class Matter {
        final Score music = new Score();
        final Tones tones = new Tones();
        final Drum barrel = new Drum();
        final Clappers clappers = new Clappers();
        int faultKind = 0;
        int faultPlace = NONE;
        int reach = 4;
        int price = 100;

        void copyFrom(Matter other) {
            music.copyFrom(other.music);
            tones.copyFrom(other.tones);
            barrel.copyFrom(other.barrel);
            clappers.copyFrom(other.clappers);
            faultKind = other.faultKind;
            faultPlace = other.faultPlace;
            reach = other.reach;
            price = other.price;
        }
    }

    private static final class Tape {
        private static final int FED_AT_ONCE = 20;

        final byte[] bytes = new byte[MOST_BYTES];
        int size = 0;

        boolean hasRoom() {
            return size + FED_AT_ONCE <= MOST_BYTES;
        }

        void addNumber(int number) {
            for (int shift = 24; shift >= 0 && size < MOST_BYTES; shift -= 8) {
                bytes[size] = (byte) (number >> shift);
                size++;
            }
        }
    }

    /** STRIKES in order of ticks, then of BELLS. */
    private static final class Score {
        final int[] ticks = new int[MOST_STRIKES];
        final int[] bells = new int[MOST_STRIKES];
        int size = 0;
        int behind = 0;

        boolean has(int k) {
            return k >= 0 && k < size;
        }

        void clear() {
            size = 0;
            behind = 0;
        }

        void addStrike(int tick, int bell) {
            if (size < MOST_STRIKES) {
                ticks[size] = tick;
                bells[size] = bell;
                size++;
            }
        }

        int bellsBetween(int from, int to) {
            return Math.abs(bells[to] - bells[from]);
        }

        void copyFrom(Score other) {
            System.arraycopy(other.ticks, 0, ticks, 0, MOST_STRIKES);
            System.arraycopy(other.bells, 0, bells, 0, MOST_STRIKES);
            size = other.size;
            behind = other.behind;
        }
    }

    /** Goes through the tape's text, what is repeated each time, and writes a draft of the SCORE. */
    private static final class Reader {
        private static final int CANT_BE_THERE = 1;
        private static final int WRONG_NUMBER = 2;
        private static final int TOO_DEEP = 3;
        private static final int TOO_MUCH = 4;

        private static final int TEXT_ENDS = -1;
        private static final int MOST_OPEN = 4;
        private static final int MOST_AT_ONCE = 4;
        private static final int MOST_ROUNDS = 9;
        private static final int MOST_LENGTH = 64;
        private static final int FIRST_LENGTH = 4;
        private static final int LAST_BEGINNING = 1999;
        private static final int MOST_DIGITS = 3;
        // A text of 1000 bytes has fewer than 400,000 parts to go through, all repeats counted.
        private static final int FAR_ABOVE_ALL_PARTS = 1000000;

        final Score draft = new Score();
        int faultKind;
        int faultPlace;

        private final Tape tape;
        private final int[] bodyPlace = new int[MOST_OPEN];
        private final int[] roundsLeft = new int[MOST_OPEN];
        private final int[] lengthAhead = new int[MOST_OPEN];
        private final int[] tickAhead = new int[MOST_OPEN];
        private int open;
        private int place;
        private int numberPlace;
        private int length;
        private int tick;
        private int firstOfTwo;
        private int secondOfTwo;
        private int bellMask;

        Reader(Tape tape) {
            this.tape = tape;
        }

        boolean readAll() {
            start();
            boolean more = true;
            for (int parts = 0; more && parts < FAR_ABOVE_ALL_PARTS; parts++) {
                int sign = nextSign();
                if (isDigit(sign)) {
                    openGroup();
                } else if (sign == '}') {
                    closeGroup();
                } else if (sign == 'b' || sign == '(' || sign == '_' || sign == 't') {
                    readItem(sign);
                } else if (sign != TEXT_ENDS || open > 0) {
                    fail(CANT_BE_THERE, place);
                }
                more = sign != TEXT_ENDS && faultKind == 0;
            }
            draft.behind = tick;
            return faultKind == 0;
        }

        private void start() {
            draft.clear();
            faultKind = 0;
            faultPlace = NONE;
            open = 0;
            place = 0;
            length = FIRST_LENGTH;
            tick = 0;
        }

        private void openGroup() {
            int rounds = readNumber(1, MOST_ROUNDS);
            expect('x');
            if (nextSign() == '{' && open >= MOST_OPEN) {
                fail(TOO_DEEP, place);
            }
            expect('{');
            if (faultKind == 0 && open < MOST_OPEN) {
                bodyPlace[open] = place;
                roundsLeft[open] = rounds;
                lengthAhead[open] = length;
                tickAhead[open] = tick;
                open++;
            }
        }

        private void closeGroup() {
            if (open == 0) {
                fail(CANT_BE_THERE, place);
                return;
            }
            int top = open - 1;
            roundsLeft[top]--;
            // A round without an ITEM changes nothing, and so would all that follow it.
            boolean again = roundsLeft[top] > 0 && tick > tickAhead[top];
            if (again) {
                place = bodyPlace[top];
                // A LENGTH that is left away is that of the ITEM before in the text, not in time.
                length = lengthAhead[top];
            } else {
                open = top;
                place++;
            }
        }

        private void readItem(int sign) {
            int itemPlace = place;
            if (tick > LAST_BEGINNING) {
                fail(TOO_MUCH, itemPlace);
                return;
            }
            place++;
            bellMask = 0;
            if (sign == 'b') {
                readBell();
            } else if (sign == '(') {
                readChord();
            } else if (sign == 't') {
                firstOfTwo = readBell();
                secondOfTwo = readBell();
            }
            readLength();
            if (faultKind == 0) {
                writeItem(sign == 't', itemPlace);
            }
        }

        private void readChord() {
            readBell();
            for (int more = 0; more < MOST_AT_ONCE && faultKind == 0; more++) {
                if (nextSign() == ')') {
                    place++;
                    return;
                }
                readBell();
            }
        }

        private int readBell() {
            int bell = readNumber(0, BELLS - 1);
            if (faultKind != 0) {
                return NONE;
            }
            int bit = 1 << bell;
            if ((bellMask & bit) != 0 || Integer.bitCount(bellMask) == MOST_AT_ONCE) {
                fail(WRONG_NUMBER, numberPlace);
                return NONE;
            }
            bellMask |= bit;
            return bell;
        }

        private void readLength() {
            if (nextSign() == ':') {
                place++;
                int told = readNumber(1, MOST_LENGTH);
                if (faultKind == 0) {
                    length = told;
                }
            }
        }

        private void writeItem(boolean inTurn, int itemPlace) {
            int added = inTurn ? length : Integer.bitCount(bellMask);
            if (draft.size + added > MOST_STRIKES) {
                fail(TOO_MUCH, itemPlace);
                return;
            }
            if (inTurn) {
                for (int i = 0; i < length; i++) {
                    draft.addStrike(tick + i, (i & 1) == 0 ? firstOfTwo : secondOfTwo);
                }
            } else {
                for (int bell = 0; bell < BELLS; bell++) {
                    if ((bellMask >> bell & 1) != 0) {
                        draft.addStrike(tick, bell);
                    }
                }
            }
            tick += length;
        }

        private int readNumber(int lowest, int highest) {
            int sign = nextSign();
            numberPlace = place;
            int value = 0;
            int digits = 0;
            while (digits < MOST_DIGITS && isDigit(sign)) {
                value = value * 10 + sign - '0';
                digits++;
                place++;
                sign = signHere();
            }
            if (digits == 0 || isDigit(sign)) {
                fail(CANT_BE_THERE, place);
            } else if (value < lowest || value > highest) {
                fail(WRONG_NUMBER, numberPlace);
            }
            return value;
        }

        private void expect(char sign) {
            if (nextSign() == sign) {
                place++;
            } else {
                fail(CANT_BE_THERE, place);
            }
        }

        // What is read behind a FAULT only goes on harmlessly: the first one is kept.
        private void fail(int kind, int where) {
            if (faultKind == 0) {
                faultKind = kind;
                faultPlace = where;
            }
        }

        private int nextSign() {
            int sign = signHere();
            while (place < tape.size && (sign == ' ' || sign == '\n')) {
                place++;
                sign = signHere();
            }
            return sign;
        }

        private int signHere() {
            if (place < 0 || place >= tape.size || place >= MOST_BYTES) {
                return TEXT_ENDS;
            }
            return tape.bytes[place] & 255;
        }

        private static boolean isDigit(int sign) {
            return sign >= '0' && sign <= '9';
        }
    }

    /** THE SETTING of a SCORE. A FIST's last STRIKE is told by its number, NONE ahead of its first. */
    private static final class Setting {
        private static final int ROW = MOST_STRIKES + 1;

        final int[] who = new int[MOST_STRIKES];
        final int[] gone = new int[FISTS];
        int total;
        int leftOut;

        private final Score music;
        // The least cost of all behind the later of two last STRIKES, by (left + 1, right + 1).
        private final int[] rest = new int[ROW * ROW];
        private int reach;
        private int price;

        Setting(Score music) {
            this.music = music;
        }

        void settle(int withReach, int withPrice) {
            reach = withReach;
            price = withPrice;
            for (int latest = music.size - 1; latest >= 0; latest--) {
                for (int other = NONE; other < latest; other++) {
                    rest[spot(latest, other)] = leastRest(latest, other);
                    rest[spot(other, latest)] = leastRest(other, latest);
                }
            }
            total = leastRest(NONE, NONE);
            walk();
        }

        private static int spot(int left, int right) {
            return (left + 1) * ROW + right + 1;
        }

        private int leastRest(int left, int right) {
            int next = Math.max(left, right) + 1;
            int found = (music.size - next) * price;
            int skipped = 0;
            for (int k = next; k < music.size && skipped < found; k++) {
                int byLeft = costBy(LEFT, left, right, k);
                if (byLeft != NONE) {
                    found = Math.min(found, skipped + byLeft);
                }
                int byRight = costBy(RIGHT, left, right, k);
                if (byRight != NONE) {
                    found = Math.min(found, skipped + byRight);
                }
                skipped += price;
            }
            return found;
        }

        // The cost of STRIKE k by a FIST and of all behind it; NONE where the FIST can't.
        private int costBy(int fist, int left, int right, int k) {
            if (fist == LEFT) {
                // STRIKES of one tick come from the lowest BELL up: LEFT would be above RIGHT.
                boolean aboveRight = right != NONE && music.ticks[right] == music.ticks[k];
                int went = aboveRight ? NONE : moveTo(left, k);
                return went == NONE ? NONE : went + rest[spot(k, right)];
            }
            int went = moveTo(right, k);
            return went == NONE ? NONE : went + rest[spot(left, k)];
        }

        private int moveTo(int from, int k) {
            if (from == NONE) {
                return 0;
            }
            int later = music.ticks[k] - music.ticks[from];
            int went = music.bellsBetween(from, k);
            return later < 1 || went > reach * later ? NONE : went;
        }

        // LEFT is tried ahead of RIGHT, and both ahead of LEFT OUT: so the first SETTING is found.
        private void walk() {
            int left = NONE;
            int right = NONE;
            int due = total;
            gone[LEFT] = 0;
            gone[RIGHT] = 0;
            leftOut = 0;
            for (int k = 0; k < music.size; k++) {
                if (costBy(LEFT, left, right, k) == due) {
                    who[k] = LEFT;
                    gone[LEFT] += moveTo(left, k);
                    left = k;
                    due = rest[spot(left, right)];
                } else if (costBy(RIGHT, left, right, k) == due) {
                    who[k] = RIGHT;
                    gone[RIGHT] += moveTo(right, k);
                    right = k;
                    due = rest[spot(left, right)];
                } else {
                    who[k] = LEFT_OUT;
                    leftOut++;
                    due -= price;
                }
            }
        }
    }

    /** The least REACH with which nothing is LEFT OUT. */
    private static final class Need {
        private static final int TOO_FAR = MOST_REACH + 1;

        private final Score music;
        // By the FIST that struck last and the other one's last STRIKE + 1: the least REACH so far.
        private final int[][] soFar = new int[FISTS][MOST_STRIKES];

        Need(Score music) {
            this.music = music;
        }

        int leastReach() {
            if (music.size == 0) {
                return 1;
            }
            soFar[LEFT][0] = 1;
            soFar[RIGHT][0] = 1;
            for (int k = 1; k < music.size; k++) {
                int toLeft = handOver(RIGHT, k);
                int toRight = handOver(LEFT, k);
                stay(LEFT, k);
                stay(RIGHT, k);
                soFar[LEFT][k] = toLeft;
                soFar[RIGHT][k] = toRight;
            }
            int found = TOO_FAR;
            for (int i = 0; i < music.size; i++) {
                found = Math.min(found, Math.min(soFar[LEFT][i], soFar[RIGHT][i]));
            }
            return found < TOO_FAR ? found : NONE;
        }

        // A FIST struck the STRIKE ahead of k, and the other one strikes k.
        private int handOver(int fist, int k) {
            if (fist == RIGHT && music.ticks[k] == music.ticks[k - 1]) {
                return TOO_FAR;
            }
            int found = TOO_FAR;
            for (int i = 0; i < k; i++) {
                found = Math.min(found, Math.max(soFar[fist][i], reachFor(i - 1, k)));
            }
            return found;
        }

        private void stay(int fist, int k) {
            int asked = reachFor(k - 1, k);
            for (int i = 0; i < k; i++) {
                soFar[fist][i] = Math.max(soFar[fist][i], asked);
            }
        }

        private int reachFor(int from, int k) {
            if (from == NONE) {
                return 1;
            }
            int later = music.ticks[k] - music.ticks[from];
            if (later < 1) {
                return TOO_FAR;
            }
            return (music.bellsBetween(from, k) + later - 1) / later;
        }
    }

    /** How long BELLS sound, and which of them quarrel. */
    private static final class Tones {
        private static final int FIRST_TAIL = 8;
        private static final int HALF_TONES = 12;

        final int[] tails = new int[BELLS];
        int quarrelBits = FIRST_QUARRELS;

        private final int[] lengths = new int[MOST_STRIKES];

        Tones() {
            for (int bell = 0; bell < BELLS; bell++) {
                tails[bell] = FIRST_TAIL;
            }
        }

        int soundLength(Score music, int k) {
            int tail = tails[music.bells[k]];
            for (int next = k + 1; next < music.size; next++) {
                if (music.bells[next] == music.bells[k]) {
                    return Math.min(tail, music.ticks[next] - music.ticks[k]);
                }
            }
            return tail;
        }

        int quarrelTicks(Score music) {
            for (int k = 0; k < music.size; k++) {
                lengths[k] = soundLength(music, k);
            }
            int sum = 0;
            for (int first = 0; first < music.size; first++) {
                for (int second = first + 1; second < music.size; second++) {
                    if (canQuarrel(music, first, second)) {
                        sum += ticksTogether(music, first, second);
                    }
                }
            }
            return sum;
        }

        private boolean canQuarrel(Score music, int first, int second) {
            int apart = music.bellsBetween(first, second);
            return apart != 0 && (quarrelBits >> apart % HALF_TONES & 1) != 0;
        }

        // The second one begins no sooner than the first one does.
        private int ticksTogether(Score music, int first, int second) {
            int firstEnds = music.ticks[first] + lengths[first];
            int secondEnds = music.ticks[second] + lengths[second];
            return Math.max(0, Math.min(firstEnds, secondEnds) - music.ticks[second]);
        }

        void copyFrom(Tones other) {
            System.arraycopy(other.tails, 0, tails, 0, BELLS);
            quarrelBits = other.quarrelBits;
        }
    }

    /** THE DRUM. Its pins come from a SCORE alone, so there are never more than it has STRIKES. */
    private static final class Drum {
        private static final int FIRST_STEPS = 64;

        final int[] pinSteps = new int[MOST_STRIKES];
        final int[] pinBells = new int[MOST_STRIKES];
        int size = 0;
        int steps = FIRST_STEPS;
        int latestTurn = NONE;

        void renew(int newSteps) {
            steps = newSteps;
            size = 0;
            latestTurn = NONE;
        }

        boolean hasPin(int step, int bell) {
            for (int p = 0; p < size; p++) {
                if (pinSteps[p] == step && pinBells[p] == bell) {
                    return true;
                }
            }
            return false;
        }

        boolean fits(Score music) {
            // The last STRIKE has the highest tick of all.
            return music.size == 0 || music.ticks[music.size - 1] < steps;
        }

        void pinDown(Score music, int byTurn) {
            for (int k = 0; k < music.size; k++) {
                int step = music.ticks[k] + byTurn;
                // Both are below STEPS, so that one STEPS less is modulo enough.
                pinSteps[k] = step < steps ? step : step - steps;
                pinBells[k] = music.bells[k];
            }
            size = music.size;
            latestTurn = byTurn;
        }

        void copyFrom(Drum other) {
            System.arraycopy(other.pinSteps, 0, pinSteps, 0, MOST_STRIKES);
            System.arraycopy(other.pinBells, 0, pinBells, 0, MOST_STRIKES);
            size = other.size;
            steps = other.steps;
            latestTurn = other.latestTurn;
        }
    }

    /** Finds the TURN of a SCORE that keeps the most pins of a DRUM that it fits on. */
    private static final class Turns {
        int best;
        int mostKept;

        private final int[] kept = new int[MOST_STEPS];

        void find(Drum barrel, Score music) {
            for (int shift = 0; shift < barrel.steps; shift++) {
                kept[shift] = 0;
            }
            for (int p = 0; p < barrel.size; p++) {
                for (int k = 0; k < music.size; k++) {
                    if (music.bells[k] == barrel.pinBells[p]) {
                        int shift = barrel.pinSteps[p] - music.ticks[k];
                        kept[shift < 0 ? shift + barrel.steps : shift]++;
                    }
                }
            }
            best = 0;
            for (int shift = 1; shift < barrel.steps; shift++) {
                if (kept[shift] > kept[best]) {
                    best = shift;
                }
            }
            mostKept = kept[best];
        }
    }

    /** How often each BELL was struck since it was mended. */
    private static final class Clappers {
        final long[] struck = new long[BELLS];

        int playByFists(Score music, Setting setting) {
            int sum = 0;
            for (int k = 0; k < music.size; k++) {
                if (setting.who[k] != LEFT_OUT) {
                    struck[music.bells[k]]++;
                    sum++;
                }
            }
            return sum;
        }

        int playByDrum(Drum barrel) {
            for (int p = 0; p < barrel.size; p++) {
                struck[barrel.pinBells[p]]++;
            }
            return barrel.size;
        }

        int wornAt(int n) {
            int sum = 0;
            for (int bell = 0; bell < BELLS; bell++) {
                if (struck[bell] >= n) {
                    sum++;
                }
            }
            return sum;
        }

        void copyFrom(Clappers other) {
            System.arraycopy(other.struck, 0, struck, 0, BELLS);
        }
    }
}
