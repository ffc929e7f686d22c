/** The edges that Terms I and promises 2 to 7 name: each sentence at the last value allowed and the first one not. */
public final class TextEdgesTest {
    private static final Check CHECK = new Check("TextEdgesTest");
    /** 1984 ticks without a STRIKE. */
    private static final String LATE = "5x{6x{_:64}}_:64 ";
    /** 100 STRIKES in 25 ticks. */
    private static final String FULL = "5x{5x{(1 2 3 4):1}} ";
    /** 99 STRIKES in 99 ticks. */
    private static final String NEARLY_FULL = "9x{9x{b1:1}2x{b2}} ";

    public static void main(String[] args) {
        tapeOf1000();
        tapeCut();
        tapeGoes();
        highestByteFirst();
        bells();
        blanks();
        blanksBetween();
        numbersNeedABlank();
        emptyText();
        digits();
        lengthRange();
        lengthLeftAway();
        lengthInWhatIsRepeated();
        atOnce();
        silence();
        inTurn();
        rounds();
        emptyGroups();
        openBraces();
        closingBraces();
        nextItemLater();
        strikesInOrder();
        hundredStrikes();
        hundredInWhatIsRepeated();
        tooManyBehindAllOfIt();
        lastTick();
        tooLateAheadOfTheRest();
        tooLateInWhatIsRepeated();
        endsTooSoon();
        cantBeThere();
        firstFault();
        scoreBeforeStays();
        latestFault();
        strikeNumbers();
        counts();
        CHECK.finish();
    }

    // Promise 2: "NONE, doing nothing, if there would be more than 1000."
    private static void tapeOf1000() {
        CarillonDesk d = new CarillonDesk();
        for (int n = 20; n <= 1000; n += 20) {
            CHECK.due("feed to " + n, blanksFed(d), n);
        }
        CHECK.due("feed behind 1000", feedB1(d), -1);
        CHECK.due("1000 stay", d.end(1000), true);
        CHECK.due("no more than 1000", d.end(1001), false);
        CHECK.due("nothing came on the full tape", d.score(), 0);
        CarillonDesk cut = fullTape();
        cut.end(981);
        CHECK.due("feed behind 981", feedB1(cut), -1);
        CHECK.due("981 stay", cut.end(981), true);
        CHECK.due("no more than 981", cut.end(982), false);
        cut.end(980);
        CHECK.due("feed behind 980", feedB1(cut), 1000);
        CHECK.due("feed behind 1000 again", feedB1(cut), -1);
        CHECK.due("the last twenty are read", cut.score(), 1);
        // The last byte of all: what it can't be is told at 999, what is missing behind it at 1000.
        CarillonDesk last = fullTape();
        last.end(980);
        last.feed(0x20202020, 0x20202020, 0x20202020, 0x20202020, 0x20202063);
        CHECK.due("a c at 999", last.score(), -1);
        CHECK.due("its place", last.fault(1), 999);
        last = fullTape();
        last.end(980);
        last.feed(0x20202020, 0x20202020, 0x20202020, 0x20202020, 0x20202062);
        CHECK.due("a b at 999", last.score(), -1);
        CHECK.due("the text's length", last.fault(1), 1000);
    }

    private static CarillonDesk fullTape() {
        CarillonDesk d = new CarillonDesk();
        for (int i = 0; i < 50; i++) {
            blanksFed(d);
        }
        return d;
    }

    private static int blanksFed(CarillonDesk d) {
        return d.feed(0x20202020, 0x20202020, 0x20202020, 0x20202020, 0x20202020);
    }

    private static int feedB1(CarillonDesk d) {
        return d.feed(0x62312020, 0x20202020, 0x20202020, 0x20202020, 0x20202020);
    }

    // Promise 3: "The tape has its first n bytes alone: true; false, doing nothing, if it has not so many, or n is below 0."
    private static void tapeCut() {
        CarillonDesk d = new CarillonDesk();
        CHECK.due("end(0) of an empty tape", d.end(0), true);
        CHECK.due("end(1) of an empty tape", d.end(1), false);
        CHECK.due("end(-1) of an empty tape", d.end(-1), false);
        Check.put(d, "b1 b2 b3 b4 b5 b6 b7");
        CHECK.due("end(21) of 20", d.end(21), false);
        CHECK.due("end(-1) of 20", d.end(-1), false);
        CHECK.due("end(min) of 20", d.end(Integer.MIN_VALUE), false);
        CHECK.due("end(max) of 20", d.end(Integer.MAX_VALUE), false);
        CHECK.due("end(20) of 20", d.end(20), true);
        CHECK.due("end(5) of 20", d.end(5), true);
        CHECK.due("end(6) of 5", d.end(6), false);
        CHECK.due("five are left", d.feed(0x20623920, 0x20202020, 0x20202020, 0x20202020, 0x20202020), 25);
        CHECK.due("score", d.score(), 3);
        CHECK.due("first", d.strike(0, 1), 1);
        CHECK.due("second", d.strike(1, 1), 2);
        CHECK.due("third is what came behind", d.strike(2, 1), 9);
        Check.put(d, "b1 b2");
        CHECK.due("end(0) of 5", d.end(0), true);
        CHECK.due("score of nothing", d.score(), 0);
    }

    // Promise 4: "The tape (it goes) is a SCORE"
    private static void tapeGoes() {
        CarillonDesk d = Check.desk("b1 b2 b3");
        CHECK.due("the tape went", d.end(1), false);
        CHECK.due("score() once more", d.score(), 0);
        CHECK.due("it is an empty SCORE", d.count(0), 0);
        CHECK.due("with a FAULT", Check.score(d, "b1 b"), -1);
        CHECK.due("the tape went with a FAULT", d.end(1), false);
        CHECK.due("feed begins anew", feedB1(d), 20);
    }

    // Promise 2: "Twenty bytes come behind those on the tape, of each number the highest first"
    private static void highestByteFirst() {
        CarillonDesk d = new CarillonDesk();
        d.feed(0x6232333A, 0x36342862, 0x63646566, 0x6768696A, 0x6B6C6D6E);
        d.end(6);
        CHECK.due("b23:64 of two numbers", d.score(), 1);
        CHECK.due("its BELL", d.strike(0, 1), 23);
        CHECK.due("its end", d.count(1), 64);
        for (int at = 0; at < 20; at++) {
            CarillonDesk one = new CarillonDesk();
            int[] words = {0x20202020, 0x20202020, 0x20202020, 0x20202020, 0x20202020};
            // A byte with its highest bit set must not spill over into those ahead of it.
            words[at / 4] ^= (0x20 ^ 0xE2) << (3 - at % 4) * 8;
            one.feed(words[0], words[1], words[2], words[3], words[4]);
            CHECK.due("score with byte " + at, one.score(), -1);
            CHECK.due("place of byte " + at, one.fault(1), at);
        }
    }

    // Terms I: "BELLS 0 .. 23"; "2 a NUMBER that can't be (at its first digit)"
    private static void bells() {
        String[][] around = {{"b", ""}, {"(", ")"}, {"(5 ", " 7)"}, {"(5 6 7 ", ")"}, {"t", " 5"}, {"t5 ", ""}};
        for (String[] a : around) {
            int at = a[0].length();
            CHECK.faulty(a[0] + 0 + a[1], 0, -1);
            CHECK.faulty(a[0] + 23 + a[1], 0, -1);
            CHECK.faulty(a[0] + 24 + a[1], 2, at);
            CHECK.faulty(a[0] + 999 + a[1], 2, at);
            CHECK.faulty(a[0] + " \n 24" + a[1], 2, at + 3);
            CHECK.faulty(a[0] + "-1" + a[1], 1, at);
        }
        CHECK.reads("b0 b23", 8, "0:0 4:23");
        CHECK.reads("(23 0)", 4, "0:0 0:23");
        CHECK.reads("t23 0:2", 2, "0:23 1:0");
    }

    // Terms I: "with blanks (10, 32) between where one likes"; every other byte is none
    private static void blanks() {
        for (int sign = 0; sign < 256; sign++) {
            String text = "b1 " + (char) sign + " b2";
            if (sign == 10 || sign == 32 || sign == '_') {
                CHECK.faulty(text, 0, -1);
            } else if (sign == '0') {
                CHECK.faulty(text, 2, 3);
            } else if ("b(t:123456789".indexOf(sign) >= 0) {
                CHECK.faulty(text, 1, 5);
            } else {
                CHECK.faulty(text, 1, 3);
            }
        }
    }

    private static void blanksBetween() {
        String[] parts = {"2", "x", "{", "b", "1", ":", "3", "(", "4", ")", "_", ":", "2", "t", "5", " ", "6", "}", "b", "7"};
        String want = "0:1 3:4 8:5 9:6 10:1 13:4 18:5 19:6 20:7";
        CHECK.reads(String.join("", parts), 22, want);
        CHECK.reads("\n" + String.join("\n", parts) + "\n", 22, want);
        CHECK.reads("   " + String.join(" \n ", parts) + "   ", 22, want);
        for (int i = 0; i <= parts.length; i++) {
            StringBuilder text = new StringBuilder();
            for (int j = 0; j < parts.length; j++) {
                text.append(j == i ? " " : "").append(parts[j]);
            }
            CHECK.reads(text.toString(), 22, want);
        }
    }

    // Terms I: "(numbers need one between)"
    private static void numbersNeedABlank() {
        CHECK.reads("(1 2)", 4, "0:1 0:2");
        CHECK.reads("(12)", 4, "0:12");
        CHECK.reads("t1\n2:2", 2, "0:1 1:2");
        CHECK.faulty("t12", 1, 3);
        CHECK.reads("b1 2x{b3}", 12, "0:1 4:3 8:3");
        CHECK.faulty("b12x{b3}", 1, 3);
        CHECK.reads("b1:1 2x{b3}", 3, "0:1 1:3 2:3");
        CHECK.faulty("b1:12x{b3}", 1, 5);
        CHECK.faulty("b1:1 2", 1, 6);
        CHECK.faulty("b1 2", 1, 4);
        CHECK.faulty("(1)2", 1, 4);
        CHECK.reads("_2x{b3}", 12, "4:3 8:3");
    }

    // Terms I: "A SCORE's TEXT: { ITEM }": also none at all
    private static void emptyText() {
        CHECK.reads("", 0, "");
        CHECK.reads(" ", 0, "");
        CHECK.reads("\n", 0, "");
        CHECK.reads("b1", 4, "0:1");
    }

    // Terms I: "NUMBER: 1 to 3 digits."; "1 what can't be there (.. a 4th digit)"
    private static void digits() {
        CHECK.faulty("b", 1, 1);
        CHECK.reads("b7", 4, "0:7");
        CHECK.reads("b07", 4, "0:7");
        CHECK.reads("b007", 4, "0:7");
        CHECK.faulty("b0007", 1, 4);
        CHECK.faulty("b 0007", 1, 5);
        CHECK.reads("b1:064", 64, "0:1");
        CHECK.faulty("b1:0064", 1, 6);
        CHECK.reads("009x{_:1}", 9, "");
        CHECK.faulty("0009x{_:1}", 1, 3);
        CHECK.reads("(001 023)", 4, "0:1 0:23");
        CHECK.faulty("(0001", 1, 4);
        CHECK.faulty("(1 0001", 1, 6);
        CHECK.faulty("t0001", 1, 4);
        CHECK.faulty("t1 0001", 1, 6);
        // Three digits can't be, but the fourth is what ends the reading.
        CHECK.faulty("b999", 2, 1);
        CHECK.faulty("b9999", 1, 4);
        CHECK.faulty("b1:999", 2, 3);
        CHECK.faulty("b1:9999", 1, 6);
        CHECK.faulty("999x{}", 2, 0);
        CHECK.faulty("9999x{}", 1, 3);
        CHECK.faulty("b999 9", 2, 1);
        // The signs next to the digits are none.
        CHECK.faulty("b/", 1, 1);
        CHECK.faulty("b:", 1, 1);
        CHECK.faulty("b1/", 1, 2);
        CHECK.reads("b9", 4, "0:9");
    }

    // Terms I: "LENGTH: : NUMBER (1 .. 64)"
    private static void lengthRange() {
        for (String item : new String[] {"b1", "(1)", "(1 2 3 4)", "_", "t1 2"}) {
            int at = item.length() + 1;
            CHECK.due("end of " + item + ":1", Check.desk(item + ":1").count(1), 1);
            CHECK.due("end of " + item + ":64", Check.desk(item + ":64").count(1), 64);
            CHECK.faulty(item + ":0", 2, at);
            CHECK.faulty(item + ":000", 2, at);
            CHECK.faulty(item + ":65", 2, at);
            CHECK.faulty(item + " : 65", 2, at + 2);
            CHECK.faulty(item + ":", 1, at);
            CHECK.faulty(item + ":-1", 1, at);
            CHECK.faulty(item + ":1:1", 1, at + 1);
        }
        CHECK.faulty(":1", 1, 0);
        CHECK.faulty("2x{}:1", 1, 4);
    }

    // Terms I: "or nothing: as the ITEM before in the text had (4 at first ..)"
    private static void lengthLeftAway() {
        for (String item : new String[] {"b1", "(1)", "_", "t1 2"}) {
            CHECK.due("first LENGTH of " + item, Check.desk(item).count(1), 4);
            CHECK.due("LENGTH of " + item + " behind 1", Check.desk("_:1" + item).count(1), 2);
            CHECK.due("LENGTH of " + item + " behind 64", Check.desk("_:64 _ " + item).count(1), 192);
            CHECK.due("LENGTH behind " + item, Check.desk(item + ":7 b3").count(1), 14);
        }
        // A new text begins anew.
        CarillonDesk d = Check.desk("b1:9");
        Check.score(d, "b1");
        CHECK.due("4 at first again", d.count(1), 4);
        Check.score(d, "b1:9 c");
        Check.score(d, "b1");
        CHECK.due("4 at first behind a FAULT", d.count(1), 4);
    }

    // Terms I: "the text's order counts, also in what is repeated"
    private static void lengthInWhatIsRepeated() {
        CHECK.reads("2x{b1 b2:8}", 24, "0:1 4:2 12:1 16:2");
        CHECK.reads("1x{b1 b2:8}b3", 20, "0:1 4:2 12:3");
        CHECK.reads("2x{b1 b2:8}b3", 32, "0:1 4:2 12:1 16:2 24:3");
        CHECK.reads("_:1 2x{b1 2x{b2 b3:3}b4}", 25, "1:1 2:2 3:3 6:2 7:3 10:4 13:1 14:2 15:3 18:2 19:3 22:4");
        CHECK.reads("_:2 2x{3x{}b1}_:1", 7, "2:1 4:1");
        CHECK.reads("2x{2x{2x{2x{b1}}}b2:1}", 66, manyLengths());
    }

    /** Eight times BELL 1 with 4 ticks each and once BELL 2 with one, all of it twice. */
    private static String manyLengths() {
        StringBuilder all = new StringBuilder();
        int tick = 0;
        for (int round = 0; round < 2; round++) {
            for (int i = 0; i < 8; i++) {
                all.append(all.length() == 0 ? "" : " ").append(tick).append(":1");
                tick += 4;
            }
            all.append(' ').append(tick).append(":2");
            tick += 1;
        }
        return all.toString();
    }

    // Terms I: "( NUMBER { NUMBER } ) LENGTH: up to 4 unlike BELLS at once."; "a BELL that is told twice .., a 5th one likewise"
    private static void atOnce() {
        CHECK.faulty("()", 1, 1);
        CHECK.faulty("( )", 1, 2);
        CHECK.reads("(9)", 4, "0:9");
        CHECK.reads("(9 8)", 4, "0:8 0:9");
        CHECK.reads("(9 8 7)", 4, "0:7 0:8 0:9");
        CHECK.reads("(9 8 7 6)", 4, "0:6 0:7 0:8 0:9");
        CHECK.faulty("(9 8 7 6 5)", 2, 9);
        CHECK.faulty("(9 8 7 6  5", 2, 10);
        CHECK.faulty("(9 8 7 6 9)", 2, 9);
        CHECK.faulty("(9 9)", 2, 3);
        CHECK.faulty("(9 009)", 2, 3);
        CHECK.faulty("(9 8 9)", 2, 5);
        CHECK.faulty("(9 8 7 9)", 2, 7);
        CHECK.faulty("(9 8 7 7)", 2, 7);
        CHECK.faulty("(0 0)", 2, 3);
        CHECK.faulty("(23 23)", 2, 4);
        CHECK.reads("(9)(9)", 8, "0:9 4:9");
        CHECK.faulty("(9:1)", 1, 2);
        CHECK.faulty("(b9)", 1, 1);
        CHECK.faulty("(9 8 7 6 x", 1, 9);
        CHECK.faulty("(9 8 7 6 :", 1, 9);
    }

    // Terms I: "_ LENGTH: nothing is."
    private static void silence() {
        CHECK.reads("_", 4, "");
        CHECK.reads("_:64", 64, "");
        CHECK.faulty("_1", 1, 2);
        CHECK.faulty("_ 5 :1", 1, 4);
    }

    // Terms I: "t NUMBER NUMBER LENGTH: two unlike BELLS in turn, the first one first, one each tick."
    private static void inTurn() {
        CHECK.reads("t5 3:1", 1, "0:5");
        CHECK.reads("t5 3:2", 2, "0:5 1:3");
        CHECK.reads("t3 5:3", 3, "0:3 1:5 2:3");
        CHECK.reads("t5 3", 4, "0:5 1:3 2:5 3:3");
        CHECK.faulty("t5 5", 2, 3);
        CHECK.faulty("t5  005:2", 2, 4);
        CHECK.faulty("t0 0", 2, 3);
        CHECK.faulty("t5 5:1", 2, 3);
        CHECK.faulty("t5:1", 1, 2);
        CHECK.faulty("t:1", 1, 1);
        CHECK.faulty("t5 3 1:1", 1, 6);
        CarillonDesk d = Check.desk("t5 3:64");
        CHECK.due("64 in turn", d.count(0), 64);
        CHECK.due("the last one's tick", d.strike(63, 0), 63);
        CHECK.due("the last one's BELL", d.strike(63, 1), 3);
    }

    // Terms I: "NUMBER x { ITEM }: all in them as often (1 .. 9)"
    private static void rounds() {
        CHECK.reads("1x{b1:1}", 1, "0:1");
        CHECK.reads("2x{b1:1}", 2, "0:1 1:1");
        CHECK.reads("9x{b1:1}", 9, "0:1 1:1 2:1 3:1 4:1 5:1 6:1 7:1 8:1");
        CHECK.faulty("0x{b1}", 2, 0);
        CHECK.faulty("10x{b1}", 2, 0);
        CHECK.faulty("  010x{b1}", 2, 2);
        CHECK.faulty("0", 2, 0);
        CHECK.faulty("0{", 2, 0);
        CHECK.faulty("2x{0x{b1}}", 2, 3);
        CHECK.faulty("2{b1}", 1, 1);
        CHECK.faulty("x{b1}", 1, 0);
        CHECK.faulty("{b1}", 1, 0);
        CHECK.faulty("2xb1", 1, 2);
        CHECK.faulty("2x(1)", 1, 2);
        CHECK.faulty("2X{b1}", 1, 1);
        CHECK.faulty("2xx{b1}", 1, 2);
    }

    private static void emptyGroups() {
        CHECK.reads("1x{}", 0, "");
        CHECK.reads("9x{ }b1", 4, "0:1");
        CHECK.reads("9x{9x{9x{9x{}}}}b1", 4, "0:1");
        CHECK.reads("3x{2x{}b1 2x{}}", 12, "0:1 4:1 8:1");
        // As many rounds as a full tape can tell: what is behind them is read all the same.
        fullOfGroups("b1:1 9x{9x{9x{", "9x{}", "}}}b2", 2, "0:1 1:2");
        fullOfGroups("9x{9x{9x{_:1 ", "9x{}", "}}}b2", 730, "729:2");
        fullOfGroups("9x{9x{9x{_:1 ", "1x{}", "}}}b2", 730, "729:2");
        fullOfGroups("b1:1 ", "9x{9x{9x{9x{}}}}", "b2", 2, "0:1 1:2");
    }

    private static void fullOfGroups(String first, String group, String last, int behind, String strikes) {
        int times = (1000 - first.length() - last.length()) / group.length();
        CHECK.reads(first + group.repeat(times) + last, behind, strikes);
    }

    // Terms I: "at most 4 open at once"; "3 a 5th { that is open"
    private static void openBraces() {
        CHECK.reads("1x{1x{1x{1x{b1}}}}", 4, "0:1");
        CHECK.faulty("1x{1x{1x{1x{1x{b1}}}}}", 3, 14);
        CHECK.faulty("1x{1x{1x{1x{1x{", 3, 14);
        CHECK.faulty("1x{1x{1x{1x{1 x \n {", 3, 18);
        CHECK.faulty("1x{1x{1x{1x{b1 1x{", 3, 17);
        CHECK.faulty("1x{1x{1x{1x{1x", 1, 14);
        CHECK.faulty("1x{1x{1x{1x{1", 1, 13);
        CHECK.faulty("1x{1x{1x{1x{1{", 1, 13);
        CHECK.faulty("1x{1x{1x{1x{10x{", 2, 12);
        CHECK.faulty("1x{1x{1x{1x{{", 1, 12);
        // Those that are closed don't count, also not in what is repeated.
        CHECK.reads("1x{1x{1x{1x{b1}1x{b2}}1x{1x{b3}}}}", 12, "0:1 4:2 8:3");
        CHECK.reads("2x{2x{1x{1x{b1}}}}", 16, "0:1 4:1 8:1 12:1");
        CHECK.reads("1x{}1x{}1x{}1x{}1x{}b1", 4, "0:1");
        CHECK.faulty("1x{1x{1x{1x{}}}}1x{1x{1x{1x{1x{", 3, 30);
    }

    private static void closingBraces() {
        CHECK.faulty("}", 1, 0);
        CHECK.faulty("b1}", 1, 2);
        CHECK.faulty("1x{b1}}", 1, 6);
        CHECK.faulty("9x{}}", 1, 4);
        CHECK.faulty("1x{b1", 1, 5);
        CHECK.faulty("1x{1x{b1}", 1, 9);
        CHECK.faulty("1x{b1)", 1, 5);
        CHECK.faulty("1x{(1}", 1, 5);
        CHECK.faulty("1x{b}", 1, 4);
        CHECK.faulty("1x{t1}", 1, 5);
        CHECK.faulty("1x{b1:}", 1, 6);
    }

    // Terms I: "The ITEM behind begins as many ticks later as the LENGTH tells."
    private static void nextItemLater() {
        CHECK.reads("b1:1 b2:64 b3:2 b4", 69, "0:1 1:2 65:3 67:4");
        CHECK.reads("(1 2):1 (1 2):64 b3", 129, "0:1 0:2 1:1 1:2 65:3");
        CHECK.reads("t1 2:1 t3 4:2 b5", 5, "0:1 1:3 2:4 3:5");
        CHECK.reads("_:1 b1 _:64 b2", 130, "1:1 66:2");
    }

    // Terms I: "STRIKES: all of them with their ticks (from 0 on), in order of ticks, then of BELLS"
    private static void strikesInOrder() {
        CHECK.reads("(23 0 12 1):1 (2 1)", 2, "0:0 0:1 0:12 0:23 1:1 1:2");
        CHECK.reads("b9:1 b3:1 b6", 3, "0:9 1:3 2:6");
    }

    // Terms I: "100 at most"; "4 an ITEM .. that makes too many STRIKES: at its first byte"
    private static void hundredStrikes() {
        CHECK.due("99", Check.desk(NEARLY_FULL).count(0), 99);
        CHECK.due("99 and b", Check.desk(NEARLY_FULL + "b1").count(0), 100);
        CHECK.due("99 and (1)", Check.desk(NEARLY_FULL + "(1)").count(0), 100);
        CHECK.due("99 and t of 1", Check.desk(NEARLY_FULL + "t1 2:1").count(0), 100);
        int at = NEARLY_FULL.length();
        CHECK.faulty(NEARLY_FULL + "(1 2)", 4, at);
        CHECK.faulty(NEARLY_FULL + "t1 2:2", 4, at);
        CHECK.faulty(NEARLY_FULL + "b1 b2", 4, at + 3);
        CHECK.due("100", Check.desk(FULL).count(0), 100);
        at = FULL.length();
        CHECK.due("100 and _", Check.desk(FULL + "_ _").count(0), 100);
        CHECK.due("100 and an empty group", Check.desk(FULL + "9x{}").count(0), 100);
        CHECK.faulty(FULL + "b1", 4, at);
        CHECK.faulty(FULL + "(1)", 4, at);
        CHECK.faulty(FULL + "t1 2:1", 4, at);
        CHECK.faulty(FULL + "_ b1", 4, at + 2);
        CHECK.due("t of 64 and 36", Check.desk("t1 2:64 t1 2:36").count(0), 100);
        CHECK.faulty("t1 2:64 t1 2:37", 4, 8);
        CHECK.faulty("t1 2:64 t1 2", 4, 8);
        CHECK.due("96 and 4", Check.desk("6x{4x{(1 2 3 4)}}(1 2 3 4)").count(0), 100);
        CHECK.faulty("6x{4x{(1 2 3 4)}}b1(1 2 3 4)", 4, 19);
    }

    private static void hundredInWhatIsRepeated() {
        CHECK.faulty("9x{9x{b1:1}}9x{2x{b1}b2}", 4, 18);
        CHECK.faulty("9x{9x{9x{b1}}}", 4, 9);
        CHECK.faulty("9x{3x{(1 2 3 4)}}", 4, 6);
        CHECK.faulty("2x{b1 t1 2:50}", 4, 6);
        CHECK.due("two times 50", Check.desk("2x{b1 t1 2:49}").count(0), 100);
        CHECK.due("five times five times four", Check.desk("5x{5x{2x{(1 2)}}}").count(0), 100);
        CHECK.faulty("5x{5x{2x{(1 2)}}} 1x{b1}", 4, 21);
    }

    // Terms I: "or that makes too many STRIKES (behind all of it)": its own FAULTS are ahead
    private static void tooManyBehindAllOfIt() {
        int at = FULL.length();
        CHECK.faulty(FULL + "b", 1, at + 1);
        CHECK.faulty(FULL + "b24", 2, at + 1);
        CHECK.faulty(FULL + "b1:", 1, at + 3);
        CHECK.faulty(FULL + "b1:0", 2, at + 3);
        CHECK.faulty(FULL + "b1:65", 2, at + 3);
        CHECK.faulty(FULL + "b1:0001", 1, at + 6);
        CHECK.faulty(FULL + "b1:64", 4, at);
        CHECK.faulty(FULL + "b1 c", 4, at);
        CHECK.faulty(FULL + "b1:1:", 4, at);
        CHECK.faulty(FULL + "(1 1)", 2, at + 3);
        CHECK.faulty(FULL + "(1 2 3 4 5)", 2, at + 9);
        CHECK.faulty(FULL + "(1", 1, at + 2);
        CHECK.faulty(FULL + "(1) c", 4, at);
        CHECK.faulty(FULL + "t1 1", 2, at + 3);
        CHECK.faulty(FULL + "t1 2:65", 2, at + 5);
        CHECK.faulty(FULL + "t1 2:1c", 4, at);
    }

    // Terms I: "no ITEM begins behind tick 1999"; "4 an ITEM (b, (, _, t) that would begin too late: at its first byte"
    private static void lastTick() {
        String last = LATE + "_:15 ";
        String behind = LATE + "_:16 ";
        int at = behind.length();
        for (String item : new String[] {"b1:64", "(1 2):64", "_:64", "t1 2:64"}) {
            CHECK.faulty(last + item, 0, -1);
            CHECK.due("end of " + item + " at 1999", Check.desk(last + item).count(1), 2063);
            CHECK.faulty(behind + item, 4, at);
            CHECK.faulty(last + "_:1 " + item, 4, last.length() + 4);
            CHECK.faulty(last + item + item, 4, last.length() + item.length());
        }
        CHECK.due("a STRIKE at 1999", Check.desk(last + "b1").strike(0, 0), 1999);
        CHECK.due("the last STRIKE that can be", Check.desk(last + "t1 2:64").strike(63, 0), 2062);
        // A group is none of these ITEMS: it may begin there, if nothing in it does.
        CHECK.faulty(behind + "9x{}", 0, -1);
        CHECK.faulty(behind + "1x{b1}", 4, at + 3);
        CHECK.faulty(behind + "0x{}", 2, at);
        CHECK.faulty(behind + "1x{c}", 1, at + 3);
        CHECK.faulty(behind, 0, -1);
    }

    // Terms I: "(ahead of what is behind its first byte)"
    private static void tooLateAheadOfTheRest() {
        String behind = LATE + "_:16 ";
        int at = behind.length();
        for (String item : new String[] {"b", "b24", "b1:0", "b1234", "(", "()", "(1 1)", "_:0", "_:", "t", "t1 1", "tc"}) {
            CHECK.faulty(behind + item, 4, at);
        }
        CHECK.faulty(behind + "c", 1, at);
        CHECK.faulty(behind + "}", 1, at);
        // Too late and too many: it is too late first.
        CHECK.faulty(FULL + "5x{6x{_:64}}_:54 _:1 b24", 4, FULL.length() + 21);
        CHECK.faulty(FULL + "5x{6x{_:64}}_:54 b24", 2, FULL.length() + 18);
    }

    private static void tooLateInWhatIsRepeated() {
        CHECK.faulty("9x{9x{_:64}}", 4, 6);
        CHECK.faulty("9x{9x{_:64}}c", 4, 6);
        CHECK.faulty("9x{9x{_:64}c}", 1, 11);
        CHECK.faulty("9x{9x{_:64}", 1, 11);
        // Four rounds of 500 ticks: what begins behind them is too late, at its own first byte.
        CHECK.faulty("4x{5x{_:50 _}}_:1", 4, 14);
        CHECK.faulty("4x{5x{_:50 _}}", 0, -1);
        CHECK.faulty("5x{5x{_:50 _}}", 4, 6);
        CHECK.faulty("2x{_:1 4x{5x{_:50 _}}}", 4, 3);
        CHECK.due("the end of 2000 ticks", Check.desk("4x{5x{_:50 _}}").count(1), 2000);
    }

    // Terms I: "1 what can't be there (at the text's length, if it ends too soon ..)"
    private static void endsTooSoon() {
        String text = "2x{b1:3(4 5):6_:7t7 8:9 3x{b1}}";
        for (int n = 1; n < text.length(); n++) {
            CHECK.faulty(text.substring(0, n), 1, n);
            CHECK.faulty(text.substring(0, n) + " \n ", 1, n + 3);
        }
        CHECK.faulty(text, 0, -1);
        for (String part : new String[] {"b", "b1:", "(", "(1", "(1 2 3 4", "_:", "t", "t1", "t1 2:", "1", "1x", "1x{"}) {
            CHECK.faulty(part, 1, part.length());
            CHECK.faulty(part + " ", 1, part.length() + 1);
            CHECK.faulty("b1 " + part, 1, part.length() + 3);
        }
    }

    // Terms I: "1 what can't be there", at every place of a text
    private static void cantBeThere() {
        String text = "2x{b1:3(4 5):6_:7t7 8:9}b2";
        for (int at = 0; at < text.length(); at++) {
            String broken = text.substring(0, at) + "?" + text.substring(at);
            CHECK.faulty(broken, 1, at);
        }
        CHECK.faulty(text + "?", 1, text.length());
        CHECK.faulty(text, 0, -1);
    }

    // Terms I: "FAULTS, the first as the text is gone through (what is repeated each time)"
    private static void firstFault() {
        CHECK.faulty("b24 c", 2, 1);
        CHECK.faulty("c b24", 1, 0);
        CHECK.faulty("(1 1 24 0001", 2, 3);
        CHECK.faulty("(24 1 1", 2, 1);
        CHECK.faulty("b24:65", 2, 1);
        CHECK.faulty("1x{1x{1x{1x{1x{b24", 3, 14);
        CHECK.faulty("1x{1x{1x{b24 1x{1x{", 2, 10);
        CHECK.faulty("9x{9x{b1:1 b2}}b24", 4, 6);
        CHECK.faulty("9x{9x{b1:1 b24}}", 2, 12);
        CHECK.faulty("9x{9x{b1:1}b24}", 2, 12);
        CHECK.faulty("9x{9x{b1:1 b2}c}", 1, 14);
        CHECK.faulty("9x{t1 2:12}c", 4, 3);
        CHECK.faulty("8x{t1 2:12}c", 1, 11);
    }

    // Promise 4: "NONE with a FAULT (the SCORE before stays)."
    private static void scoreBeforeStays() {
        CarillonDesk d = Check.desk("(1 2 3):5 b4:7");
        for (String text : new String[] {"b9 c", "b9 b24", "1x{1x{1x{1x{1x{", FULL + "b1"}) {
            CHECK.due("score of " + text, Check.score(d, text), -1);
            CHECK.due("count(0) stays", d.count(0), 4);
            CHECK.due("count(1) stays", d.count(1), 12);
            CHECK.due("count(2) stays", d.count(2), 1);
            CHECK.due("STRIKES stay", Check.strikes(d).equals("0:1 0:2 0:3 5:4"), true);
        }
        CHECK.due("an empty one doesn't leave it", Check.score(d, ""), 0);
        CHECK.due("it went", d.count(0), 0);
        CHECK.due("its end went", d.count(1), 0);
        CHECK.due("a FAULT on a new desk", Check.desk("b1 c").count(0), 0);
    }

    // Promise 5: "its FAULT (0; 0 without, and ahead of any), its place (1; NONE without). NONE for another what."
    private static void latestFault() {
        CarillonDesk d = new CarillonDesk();
        faults(d, "ahead of any", 0, -1);
        Check.put(d, "b24");
        faults(d, "ahead of score()", 0, -1);
        d.score();
        faults(d, "of b24", 2, 1);
        Check.put(d, "c");
        faults(d, "until the next score()", 2, 1);
        d.score();
        faults(d, "at place 0", 1, 0);
        Check.score(d, "b1");
        faults(d, "without", 0, -1);
        Check.score(d, FULL + "b1");
        faults(d, "too many", 4, FULL.length());
        d.score();
        faults(d, "of an empty tape", 0, -1);
    }

    private static void faults(CarillonDesk d, String when, int kind, int place) {
        CHECK.due("fault(0) " + when, d.fault(0), kind);
        CHECK.due("fault(1) " + when, d.fault(1), place);
        CHECK.due("fault(-1) " + when, d.fault(-1), -1);
        CHECK.due("fault(2) " + when, d.fault(2), -1);
        for (int what : Check.FAR) {
            CHECK.due("fault(" + what + ") " + when, d.fault(what), -1);
        }
    }

    // Promise 6: "STRIKE k: 0 tick, 1 BELL; NONE when there is none such."
    private static void strikeNumbers() {
        CarillonDesk empty = new CarillonDesk();
        CHECK.due("strike(0, 0) of nothing", empty.strike(0, 0), -1);
        CHECK.due("strike(0, 1) of nothing", empty.strike(0, 1), -1);
        CarillonDesk d = Check.desk(FULL);
        CHECK.due("strike(99, 0)", d.strike(99, 0), 24);
        CHECK.due("strike(99, 1)", d.strike(99, 1), 4);
        CHECK.due("strike(0, 0)", d.strike(0, 0), 0);
        CHECK.due("strike(0, 1)", d.strike(0, 1), 1);
        for (int k : new int[] {-1, 100, 101, Integer.MIN_VALUE, Integer.MAX_VALUE}) {
            CHECK.due("strike(" + k + ", 0)", d.strike(k, 0), -1);
            CHECK.due("strike(" + k + ", 1)", d.strike(k, 1), -1);
        }
        CHECK.due("strike(0, -1)", d.strike(0, -1), -1);
        CHECK.due("strike(0, 2)", d.strike(0, 2), -1);
        for (int what : Check.FAR) {
            CHECK.due("strike(0, " + what + ")", d.strike(0, what), -1);
        }
        Check.score(d, "b7");
        CHECK.due("strike(0, 1) of one", d.strike(0, 1), 7);
        CHECK.due("strike(1, 1) of one", d.strike(1, 1), -1);
    }

    // Promise 7: "0 STRIKES, 1 the tick behind its last ITEM, 2 how many STRIKES are LEFT OUT ... NONE for others."
    private static void counts() {
        CarillonDesk d = new CarillonDesk();
        counted(d, "new", 0, 0, 0);
        Check.score(d, FULL);
        counted(d, "full", 100, 25, 50);
        Check.score(d, LATE + "_:15 b1:64");
        counted(d, "long", 1, 2063, 0);
        Check.score(d, "_:9");
        counted(d, "silent", 0, 9, 0);
        Check.score(d, "b1:1 _:64 9x{}");
        counted(d, "with silence behind", 1, 65, 0);
        Check.score(d, "(1 2)");
        counted(d, "two at once", 2, 4, 0);
        Check.score(d, "(1 2 3)");
        counted(d, "three at once", 3, 4, 1);
    }

    private static void counted(CarillonDesk d, String what, int strikes, int behind, int leftOut) {
        CHECK.due("count(0) " + what, d.count(0), strikes);
        CHECK.due("count(1) " + what, d.count(1), behind);
        CHECK.due("count(2) " + what, d.count(2), leftOut);
        CHECK.due("count(-1) " + what, d.count(-1), -1);
        CHECK.due("count(3) " + what, d.count(3), -1);
        for (int other : Check.FAR) {
            CHECK.due("count(" + other + ") " + what, d.count(other), -1);
        }
    }
}
