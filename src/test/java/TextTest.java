import java.util.ArrayList;
import java.util.Arrays;
import java.util.List;
import java.util.Random;

/** Promises 2 to 7: the tape, the SCORE's text and its FAULTS, also against a second reader written another way. */
public final class TextTest {
    private static final Check CHECK = new Check("TextTest");

    public static void main(String[] args) {
        tape();
        wellTold();
        lengths();
        faults();
        lateAndMany();
        faultThatIsKept();
        strikesAndCounts();
        againstSecondReader();
        CHECK.finish();
    }

    private static void tape() {
        CarillonDesk d = new CarillonDesk();
        CHECK.due("end(0) new", d.end(0), true);
        CHECK.due("end(1) new", d.end(1), false);
        CHECK.due("end(-1) new", d.end(-1), false);
        for (int i = 1; i <= 50; i++) {
            CHECK.due("feed " + i, d.feed(0x20202020, 0x0A202020, 0x20202020, 0x20202020, 0x20202020), 20 * i);
        }
        CHECK.due("feed 51", d.feed(0, 0, 0, 0, 0), -1);
        CHECK.due("end(1001)", d.end(1001), false);
        CHECK.due("end(1000)", d.end(1000), true);
        CHECK.due("end(min)", d.end(Integer.MIN_VALUE), false);
        CHECK.due("end(max)", d.end(Integer.MAX_VALUE), false);
        CHECK.due("end(981)", d.end(981), true);
        CHECK.due("feed behind 981", d.feed(0, 0, 0, 0, 0), -1);
        CHECK.due("end(982)", d.end(982), false);
        CHECK.due("end(980)", d.end(980), true);
        CHECK.due("feed behind 980", d.feed(0x62302020, 0x20202020, 0x20202020, 0x20202020, 0x20206233), 1000);
        CHECK.due("score", d.score(), 2);
        CHECK.due("strike(1,1)", d.strike(1, 1), 3);
        CHECK.due("the tape went", d.end(1), false);
        CHECK.due("feed", d.feed(0x62310000, 0, 0, 0, 0), 20);
        CHECK.due("score with byte 0", d.score(), -1);
        CHECK.due("fault at byte 0", d.fault(1), 2);
        CHECK.due("the tape went with a FAULT", d.end(1), false);
        CHECK.due("high bytes", d.feed(0xFF62E2FF, -1, -1, -1, -1), 20);
        CHECK.due("score of 255", d.score(), -1);
        CHECK.due("fault(0)", d.fault(0), 1);
        CHECK.due("fault(1)", d.fault(1), 0);
    }

    private static void wellTold() {
        CHECK.reads("", 0, "");
        CHECK.reads("  \n ", 0, "");
        CHECK.reads("b0", 4, "0:0");
        CHECK.reads("b23:64", 64, "0:23");
        CHECK.reads(" b 5 : 7 b007:001", 8, "0:5 7:7");
        CHECK.reads("\nb\n5\n:\n7\n", 7, "0:5");
        CHECK.reads("(9)", 4, "0:9");
        CHECK.reads("( 9 3 23 0 ) : 2 _ b1", 6, "0:0 0:3 0:9 0:23 4:1");
        CHECK.reads("(4 3)b1(2 1)", 12, "0:3 0:4 4:1 8:1 8:2");
        CHECK.reads("t5 3:1", 1, "0:5");
        CHECK.reads("t5 3", 4, "0:5 1:3 2:5 3:3");
        CHECK.reads("_:3_:2b0", 7, "5:0");
        CHECK.reads("3x{}", 0, "");
        CHECK.reads("9x{9x{9x{9x{}}}}9x{} b1", 4, "0:1");
        CHECK.reads("2x{b1:1}3x{b2}", 5, "0:1 1:1 2:2 3:2 4:2");
        CHECK.reads("b1:1 2 x { 2x{b2}b3 }", 7, "0:1 1:2 2:2 3:3 4:2 5:2 6:3");
        CHECK.reads("009x{_:1}b1", 10, "9:1");
        CHECK.reads("1x{1x{1x{1x{b1}}}}1x{1x{1x{1x{b2}}}}", 8, "0:1 4:2");
    }

    /** The LENGTH that is left away is the text's, not that of what was gone through last. */
    private static void lengths() {
        CHECK.reads("2x{b1 b2:8}", 24, "0:1 4:2 12:1 16:2");
        CHECK.reads("2x{b1 b2:8}b3", 32, "0:1 4:2 12:1 16:2 24:3");
        CHECK.reads("b0:1 2x{b1 2x{b2 b3:2}}b4", 17, "0:0 1:1 2:2 3:3 5:2 6:3 8:1 9:2 10:3 12:2 13:3 15:4");
        CHECK.reads("_:2 b1 (2 3) t4 5 b6:1 _ b7", 11, "2:1 4:2 4:3 6:4 7:5 8:6 10:7");
        CHECK.reads("2x{3x{}b1 _:1}", 10, "0:1 5:1");
    }

    private static void faults() {
        CHECK.faulty("c", 1, 0);
        CHECK.faulty("B1", 1, 0);
        CHECK.faulty("b1\t", 1, 2);
        CHECK.faulty("b1\r", 1, 2);
        CHECK.faulty("b", 1, 1);
        CHECK.faulty("b  \n", 1, 4);
        CHECK.faulty("bb", 1, 1);
        CHECK.faulty("b-1", 1, 1);
        CHECK.faulty("b24", 2, 1);
        CHECK.faulty("b  999", 2, 3);
        CHECK.faulty("b2400", 1, 4);
        CHECK.faulty("b 0001", 1, 5);
        CHECK.faulty("b1 2", 1, 4);
        CHECK.faulty("b1 2 ", 1, 5);
        CHECK.faulty("b1 2b", 1, 4);
        CHECK.faulty("b1:", 1, 3);
        CHECK.faulty("b1: ", 1, 4);
        CHECK.faulty("b1:b", 1, 3);
        CHECK.faulty("b1::2", 1, 3);
        CHECK.faulty("b1:2:2", 1, 4);
        CHECK.faulty("b1:0", 2, 3);
        CHECK.faulty("b1: 65", 2, 4);
        CHECK.faulty("b1:0640", 1, 6);
        CHECK.faulty("b1,b2", 1, 2);
        CHECK.faulty(":4", 1, 0);
        CHECK.faulty("(", 1, 1);
        CHECK.faulty("()", 1, 1);
        CHECK.faulty("(1", 1, 2);
        CHECK.faulty("(1 ", 1, 3);
        CHECK.faulty("(1:", 1, 2);
        CHECK.faulty("(1 2 3 4", 1, 8);
        CHECK.faulty("(1 2 3 4 x", 1, 9);
        CHECK.faulty("(1 2 3 4 5", 2, 9);
        CHECK.faulty("(1 2 3 4 1", 2, 9);
        CHECK.faulty("(1 2 3 4 0005", 1, 12);
        CHECK.faulty("(1 24)", 2, 3);
        CHECK.faulty("(1 001)", 2, 3);
        CHECK.faulty("(7 8 7)", 2, 5);
        CHECK.faulty("_", 0, -1);
        CHECK.faulty("_1", 1, 2);
        CHECK.faulty("_1x{}", 0, -1);
        CHECK.faulty("_:", 1, 2);
        CHECK.faulty("_5:", 1, 2);
        CHECK.faulty("t", 1, 1);
        CHECK.faulty("t5", 1, 2);
        CHECK.faulty("t5 ", 1, 3);
        CHECK.faulty("t5:4", 1, 2);
        CHECK.faulty("t24 1", 2, 1);
        CHECK.faulty("t1 24", 2, 3);
        CHECK.faulty("t1 01", 2, 3);
        CHECK.faulty("t(1 2)", 1, 1);
        CHECK.faulty("t1 2 3", 1, 6);
        CHECK.faulty("t1 2:0", 2, 5);
        CHECK.faulty("3", 1, 1);
        CHECK.faulty("0", 2, 0);
        CHECK.faulty("0{", 2, 0);
        CHECK.faulty("10", 2, 0);
        CHECK.faulty(" 010x{}", 2, 1);
        CHECK.faulty("0001x{}", 1, 3);
        CHECK.faulty("2x", 1, 2);
        CHECK.faulty("2x ", 1, 3);
        CHECK.faulty("2xx{}", 1, 2);
        CHECK.faulty("2{}", 1, 1);
        CHECK.faulty("x{}", 1, 0);
        CHECK.faulty("{}", 1, 0);
        CHECK.faulty("2x{", 1, 3);
        CHECK.faulty("2x{b1", 1, 5);
        CHECK.faulty("2x{b1 ", 1, 6);
        CHECK.faulty("2x{)}", 1, 3);
        CHECK.faulty("2x{b1}:4", 1, 6);
        CHECK.faulty("}", 1, 0);
        CHECK.faulty("2x{}}", 1, 4);
        CHECK.faulty("2x{2x{}", 1, 7);
        CHECK.faulty("1x{1x{1x{1x{ 1 x {", 3, 17);
        CHECK.faulty("1x{1x{1x{1x{1x", 1, 14);
        CHECK.faulty("1x{1x{1x{1x{1x}", 1, 14);
        CHECK.faulty("1x{1x{1x{1x{0x{", 2, 12);
        CHECK.faulty("1x{1x{1x{1x{}1x{}}}}", 0, -1);
        CHECK.faulty("1x{1x{1x{1x{}}1x{1x{}}}}", 0, -1);
        CHECK.faulty("1x{1x{1x{1x{}}1x{1x{1x{", 3, 22);
    }

    private static void lateAndMany() {
        String late = "5x{6x{_:64}}_:64 ";
        CHECK.faulty(late + "_:15 b1", 0, -1);
        CHECK.reads(late + "_:15 b1:64", 2063, "1999:1");
        CHECK.due("t at the last tick", Check.desk(late + "_:15 t1 2:64").count(1), 2063);
        CHECK.faulty(late + "_:16 b1", 4, late.length() + 5);
        CHECK.faulty(late + "_:16 b", 4, late.length() + 5);
        CHECK.faulty(late + "_:16 (", 4, late.length() + 5);
        CHECK.faulty(late + "_:16 t", 4, late.length() + 5);
        CHECK.faulty(late + "_:16 _", 4, late.length() + 5);
        CHECK.faulty(late + "_:16 c", 1, late.length() + 5);
        CHECK.faulty(late + "_:16 3x{}", 0, -1);
        CHECK.faulty(late + "_:16 0x{}", 2, late.length() + 5);
        CHECK.faulty("9x{b1:1 9x{_:64}}", 4, 11);
        CHECK.faulty("9x{9x{_:64}}c", 4, 6);
        CHECK.faulty("9x{9x{_:64}", 1, 11);
        CHECK.faulty("9x{9x{_:64}}", 4, 6);
        CHECK.faulty("9x{9x{_:64}c}", 1, 11);
        CHECK.faulty("5x{5x{(1 2 3 4):1}}", 0, -1);
        CHECK.faulty("5x{5x{(1 2 3 4):1}} b1", 4, 20);
        CHECK.faulty("5x{5x{(1 2 3 4):1}} b1:", 1, 23);
        CHECK.faulty("5x{5x{(1 2 3 4):1}} b1:0", 2, 23);
        CHECK.faulty("5x{5x{(1 2 3 4):1}} b1c", 4, 20);
        CHECK.faulty("5x{5x{(1 2 3 4):1}} b24", 2, 21);
        CHECK.faulty("5x{5x{(1 2 3 4):1}} _ _", 0, -1);
        CHECK.faulty("5x{5x{(1 2 3 4):1}} (1 1", 2, 23);
        CHECK.faulty("t1 2:64 t1 2:36", 0, -1);
        CHECK.faulty("t1 2:64 t1 2:37", 4, 8);
        CHECK.faulty("9x{b1:1 5x{_ (1 2)}} (1 2", 1, 25);
        CHECK.faulty("9x{b1:1 5x{_ (1 2)}} (1 2)", 4, 21);
        CHECK.faulty("9x{b1:1 5x{_ (1 2)}} b1 b2", 4, 24);
    }

    private static void faultThatIsKept() {
        CarillonDesk d = new CarillonDesk();
        CHECK.due("fault(0) ahead", d.fault(0), 0);
        CHECK.due("fault(1) ahead", d.fault(1), -1);
        CHECK.due("fault(2)", d.fault(2), -1);
        CHECK.due("fault(-1)", d.fault(-1), -1);
        CHECK.due("score", Check.score(d, "b1 b2:9"), 2);
        CHECK.due("score wrong", Check.score(d, "b1 b2 b3 b24"), -1);
        CHECK.due("fault(0)", d.fault(0), 2);
        CHECK.due("fault(1)", d.fault(1), 10);
        CHECK.due("fault(2) with one", d.fault(2), -1);
        CHECK.due("SCORE stays", d.count(0), 2);
        CHECK.due("SCORE's end stays", d.count(1), 13);
        CHECK.due("SCORE's STRIKES stay", d.strike(1, 1), 2);
        d.image(1);
        CHECK.due("score right", Check.score(d, "b3"), 1);
        CHECK.due("fault(0) again", d.fault(0), 0);
        CHECK.due("fault(1) again", d.fault(1), -1);
        d.back(1);
        CHECK.due("fault(0) back", d.fault(0), 2);
        CHECK.due("fault(1) back", d.fault(1), 10);
    }

    private static void strikesAndCounts() {
        CarillonDesk d = new CarillonDesk();
        CHECK.due("strike(0,0) new", d.strike(0, 0), -1);
        CHECK.due("count(0) new", d.count(0), 0);
        CHECK.due("count(1) new", d.count(1), 0);
        CHECK.due("count(2) new", d.count(2), 0);
        Check.score(d, "(5 3 4):6 _");
        CHECK.due("strike(0,1)", d.strike(0, 1), 3);
        CHECK.due("strike(2,1)", d.strike(2, 1), 5);
        CHECK.due("strike(3,1)", d.strike(3, 1), -1);
        CHECK.due("strike(-1,0)", d.strike(-1, 0), -1);
        CHECK.due("strike(0,-1)", d.strike(0, -1), -1);
        CHECK.due("strike(0,2)", d.strike(0, 2), -1);
        CHECK.due("strike(max,0)", d.strike(Integer.MAX_VALUE, 0), -1);
        CHECK.due("strike(min,1)", d.strike(Integer.MIN_VALUE, 1), -1);
        CHECK.due("count(0)", d.count(0), 3);
        CHECK.due("count(1)", d.count(1), 12);
        CHECK.due("count(2)", d.count(2), 1);
        CHECK.due("count(3)", d.count(3), -1);
        CHECK.due("count(-1)", d.count(-1), -1);
    }

    private static void againstSecondReader() {
        Random random = new Random(7);
        int[] seen = new int[5];
        for (int i = 0; i < 60000; i++) {
            String text = randomText(random);
            SecondReader want = new SecondReader(text);
            seen[want.kind]++;
            CarillonDesk d = new CarillonDesk();
            int n = Check.score(d, text);
            CHECK.due("score of " + text, n, want.kind == 0 ? want.strikes.size() : -1);
            CHECK.due("fault(0) of " + text, d.fault(0), want.kind);
            CHECK.due("fault(1) of " + text, d.fault(1), want.kind == 0 ? -1 : want.where);
            if (want.kind == 0) {
                CHECK.due("count(1) of " + text, d.count(1), want.tick);
                for (int k = 0; k < n; k++) {
                    CHECK.due("strike(" + k + ",0) of " + text, d.strike(k, 0), want.strikes.get(k)[0]);
                    CHECK.due("strike(" + k + ",1) of " + text, d.strike(k, 1), want.strikes.get(k)[1]);
                }
            }
        }
        for (int kind = 0; kind < 5; kind++) {
            CHECK.due("texts with FAULT " + kind + " came up (" + seen[kind] + ")", seen[kind] > 500, true);
        }
    }

    private static String randomText(Random r) {
        StringBuilder s = new StringBuilder();
        items(r, s, 0, r.nextInt(6));
        // Most texts are broken in a place or two, so that FAULTS of all kinds come up.
        int breaks = r.nextInt(3);
        String signs = "b(_t0123456789x{}):  \nc";
        for (int i = 0; i < breaks && s.length() > 0; i++) {
            int at = r.nextInt(s.length());
            char sign = signs.charAt(r.nextInt(signs.length()));
            switch (r.nextInt(3)) {
                case 0 -> s.setCharAt(at, sign);
                case 1 -> s.insert(at, sign);
                default -> s.deleteCharAt(at);
            }
        }
        return s.length() > 1000 ? s.substring(0, 1000) : s.toString();
    }

    private static void items(Random r, StringBuilder s, int depth, int n) {
        for (int i = 0; i < n; i++) {
            blanks(r, s);
            int kind = r.nextInt(depth < 5 ? 6 : 4);
            if (kind == 0) {
                s.append('b');
                blanks(r, s);
                s.append(r.nextInt(30) == 0 ? 24 : r.nextInt(24));
            } else if (kind == 1) {
                s.append('(').append(r.nextInt(24));
                for (int more = r.nextInt(4); more > 0; more--) {
                    s.append(' ').append(r.nextInt(24));
                }
                blanks(r, s);
                s.append(')');
            } else if (kind == 2) {
                s.append('_');
            } else if (kind == 3) {
                s.append('t').append(r.nextInt(12)).append(' ').append(12 + r.nextInt(12));
            } else {
                s.append(' ').append(1 + r.nextInt(9));
                blanks(r, s);
                s.append('x');
                blanks(r, s);
                s.append('{');
                items(r, s, depth + 1, r.nextInt(4));
                blanks(r, s);
                s.append('}');
                continue;
            }
            if (r.nextInt(2) == 0) {
                s.append(r.nextBoolean() ? ":" : " : ").append(r.nextInt(40) == 0 ? 65 : 1 + r.nextInt(r.nextBoolean() ? 3 : 64));
            }
        }
    }

    private static void blanks(Random r, StringBuilder s) {
        for (int n = r.nextInt(6) - 3; n > 0; n--) {
            s.append(r.nextBoolean() ? ' ' : '\n');
        }
    }

    /** Marks a FAULT, so that this reader can be written without a look at it behind every step. */
    private static final class Stop extends RuntimeException {
        private static final long serialVersionUID = 1;
    }

    private interface Part {
        void run();
    }

    /** Parses each part once and keeps it; a group's rounds behind the first one run what was kept. */
    private static final class SecondReader {
        final List<int[]> strikes = new ArrayList<>();
        final String text;
        int at = 0;
        int kind = 0;
        int where = 0;
        int tick = 0;
        int length = 4;

        SecondReader(String text) {
            this.text = text;
            try {
                parts(0);
            } catch (Stop stop) {
                return;
            }
        }

        private List<Part> parts(int depth) {
            List<Part> all = new ArrayList<>();
            while (true) {
                char c = look();
                if (c == '$') {
                    if (depth > 0) {
                        stop(1, text.length());
                    }
                    return all;
                }
                if (c == '}' && depth > 0) {
                    at++;
                    return all;
                }
                all.add(Character.isDigit(c) ? group(depth) : item(c));
            }
        }

        private Part group(int depth) {
            int rounds = number(1, 9);
            sign('x');
            if (look() != '{') {
                stop(1, at);
            }
            if (depth == 4) {
                stop(3, at);
            }
            at++;
            List<Part> body = parts(depth + 1);
            for (int i = 1; i < rounds; i++) {
                body.forEach(Part::run);
            }
            return () -> {
                for (int i = 0; i < rounds; i++) {
                    body.forEach(Part::run);
                }
            };
        }

        private Part item(char c) {
            int from = at;
            if ("b(_t".indexOf(c) < 0) {
                stop(1, at);
            }
            late(from);
            at++;
            List<Integer> bells = new ArrayList<>();
            if (c == 'b') {
                bell(bells);
            } else if (c == 't') {
                bell(bells);
                bell(bells);
            } else if (c == '(') {
                do {
                    bell(bells);
                } while (look() != ')');
                at++;
            }
            if (look() == ':') {
                at++;
                length = number(1, 64);
            }
            int mine = length;
            Part part = () -> {
                late(from);
                for (int i = 0; i < (c == 't' ? mine : 1); i++) {
                    int now = tick + i;
                    if (c == 't') {
                        strikes.add(new int[] {now, bells.get(i % 2)});
                    } else {
                        bells.stream().sorted().forEach(b -> strikes.add(new int[] {now, b}));
                    }
                }
                if (strikes.size() > 100) {
                    stop(4, from);
                }
                tick += mine;
            };
            part.run();
            return part;
        }

        private void late(int from) {
            if (tick >= 2000) {
                stop(4, from);
            }
        }

        private void bell(List<Integer> bells) {
            look();
            int first = at;
            int bell = number(0, 23);
            if (bells.contains(bell) || bells.size() == 4) {
                stop(2, first);
            }
            bells.add(bell);
        }

        private int number(int low, int high) {
            look();
            int first = at;
            while (at < text.length() && Character.isDigit(text.charAt(at))) {
                if (at - first == 3) {
                    stop(1, at);
                }
                at++;
            }
            if (at == first) {
                stop(1, at);
            }
            int value = Integer.parseInt(text.substring(first, at));
            if (value < low || value > high) {
                stop(2, first);
            }
            return value;
        }

        private void sign(char c) {
            if (look() != c) {
                stop(1, at);
            }
            at++;
        }

        /** The sign behind the blanks; $ (which no text here has) at the end. */
        private char look() {
            while (at < text.length() && Arrays.asList(' ', '\n').contains(text.charAt(at))) {
                at++;
            }
            return at < text.length() ? text.charAt(at) : '$';
        }

        private void stop(int faultKind, int place) {
            kind = faultKind;
            where = place;
            throw new Stop();
        }
    }
}
