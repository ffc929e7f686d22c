import java.util.Random;

/** Random texts of SCORES: most are well told, some are too long, too deep, or broken in a place or two. */
final class Texts {
    private static final int MOST = 1000;
    private static final String SIGNS = "b(_t0123456789x{}):  \nc,";

    private final Random random;
    private final StringBuilder text = new StringBuilder();
    private final int bells;
    private final int lengths;
    private final int deepest;

    static String any(Random random) {
        Texts t = new Texts(random);
        // Few ITEMS come often: with many of them a SCORE is soon too great.
        int kind = random.nextInt(10);
        t.items(0, kind == 0 ? 0 : kind < 7 ? 1 + random.nextInt(8) : 1 + random.nextInt(40));
        if (random.nextInt(6) == 0) {
            t.breakSome();
        }
        return t.text.length() > MOST ? t.text.substring(0, MOST) : t.text.toString();
    }

    private Texts(Random random) {
        this.random = random;
        bells = random.nextBoolean() ? 24 : 6;
        lengths = random.nextInt(3) == 0 ? 64 : 1 + random.nextInt(6);
        deepest = random.nextInt(8) == 0 ? 5 : random.nextInt(5);
    }

    private void items(int depth, int n) {
        for (int i = 0; i < n && text.length() < MOST; i++) {
            blanks();
            int kind = random.nextInt(10);
            if (depth < deepest && (kind < 2 || deepest == 5 && kind < 6)) {
                group(depth);
            } else {
                item(kind);
            }
        }
    }

    private void group(int depth) {
        text.append(' ');
        number(1 + random.nextInt(random.nextInt(3) == 0 ? 9 : 2));
        blanks();
        text.append('x');
        blanks();
        text.append('{');
        items(depth + 1, random.nextInt(4));
        blanks();
        text.append('}');
    }

    private void item(int kind) {
        int low = random.nextInt(bells - 3);
        if (kind < 5) {
            text.append('b');
            blanks();
            number(random.nextInt(bells));
        } else if (kind < 7) {
            text.append('(');
            number(low + random.nextInt(3));
            for (int more = random.nextInt(12) == 0 ? 4 : random.nextInt(3); more > 0; more--) {
                text.append(' ');
                // Each below the one before, so that no BELL is told twice but for a wide step now and then.
                number(random.nextInt(15) == 0 ? random.nextInt(24) : Math.max(0, low - more * 2));
            }
            blanks();
            text.append(')');
        } else if (kind < 9) {
            text.append('_');
        } else {
            text.append('t');
            number(low);
            text.append(' ');
            number(low + 1 + random.nextInt(3));
        }
        length();
    }

    private void length() {
        if (random.nextInt(3) > 0) {
            blanks();
            text.append(':');
            blanks();
            number(1 + random.nextInt(lengths));
        }
    }

    private void number(int n) {
        text.append(random.nextInt(20) == 0 ? "0" : "").append(n);
    }

    private void blanks() {
        for (int n = random.nextInt(6) - 3; n > 0; n--) {
            text.append(random.nextBoolean() ? ' ' : '\n');
        }
    }

    private void breakSome() {
        for (int n = 1 + random.nextInt(2); n > 0 && text.length() > 0; n--) {
            int at = random.nextInt(text.length());
            char sign = SIGNS.charAt(random.nextInt(SIGNS.length()));
            switch (random.nextInt(4)) {
                case 0 -> text.setCharAt(at, sign);
                case 1 -> text.insert(at, sign);
                case 2 -> text.deleteCharAt(at);
                default -> text.setLength(at);
            }
        }
    }
}
