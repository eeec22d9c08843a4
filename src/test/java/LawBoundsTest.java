/** The sentences of the document that bound THE TAPE and THE LAW, one by one. */
public final class LawBoundsTest {
    /** Two to the 31st: the least int; one less is the greatest. */
    private static final String LEAST_INT = "4096*4096*128";

    public static void main(String[] args) {
        ask();
        Due.close("LawBoundsTest");
    }

    static void ask() {
        aTextOfTheTape();
        linesAndWhatCounts();
        chainsOfSigns();
        operands();
        names();
        atMostSixOpen();
        intsThatWrap();
        whatSignsGive();
        faults();
        held();
        withoutAText();
        withARun();
    }

    /** Where the FAULT of a text is; below 0: it is none. */
    private static void fault(String text, int place) {
        StonesOver x = new StonesOver();
        Due.is("law " + text, Due.law(x, text), place < 0 ? 1 : -100 - place);
    }

    /** What a text gives at angle 0: it is read with 500 ahead, so that it may be below 0. */
    private static void gives(String text, int want) {
        StonesOver x = Due.lane(1, "500+(" + text + ")");
        Due.is(text, x.tries(0, 0, 0, 0) - 500, want);
    }

    /** What a whole text gives at an angle. */
    private static void lands(String text, int angle, int want) {
        StonesOver x = Due.lane(1, text);
        Due.is(text + " at " + angle, x.tries(0, 0, 10 * angle, 0), want);
    }

    private static String ones(int n) {
        return "1" + "+1".repeat(n - 1);
    }

    private static void aTextOfTheTape() {
        Due.sentence("THE LAW is a TEXT by THE TAPE (at most 120 bytes)");
        StonesOver x = Due.lane(1, "");
        Due.is("without a text", x.tries(0, 0, 40, 0), 150);
        Due.feed(x, "0" + ones(60));
        Due.is("120 bytes", x.count(1), 120);
        Due.is("the 121st", x.feed('1'), -3);
        Due.is("120 bytes yet", x.count(1), 120);
        Due.is("law of 120 bytes", x.law(), 1);
        Due.is("by all 120", x.tries(0, 0, 0, 0), 60);
        Due.is("law of one byte", Due.law(x, "7"), 1);
        Due.is("by one", x.tries(0, 0, 0, 0), 7);
        Due.is("law of 119 bytes", Due.law(x, ones(60)), 1);
        Due.is("by all 119", x.tries(0, 0, 0, 0), 60);
    }

    private static void linesAndWhatCounts() {
        Due.sentence("LINES, one or more, parted by ;");
        fault("", 0);
        fault("1", -1);
        fault("1;2", -1);
        fault(";", 0);
        fault(";1", 0);
        fault("1;", 2);
        fault("1;;2", 2);
        fault("1;2;", 4);
        fault("1,2", 1);
        lands("0?1;".repeat(29) + "7", 0, 7);
        lands("0?1;".repeat(29) + "7;8", 0, 7);
        Due.sentence("LINE: E, or E ? E (what counts if the first is not 0)");
        lands("a?6;5", 0, 5);
        lands("a?6;5", 1, 6);
        lands("-a?6;5", 1, 6);
        lands("a-8?6;5", 8, 5);
        lands("a-8?6;5", 7, 6);
        lands(LEAST_INT + "?6;5", 0, 6);
        lands(LEAST_INT + "*2?6;5", 0, 5);
        fault("?", 0);
        fault("?1", 0);
        fault("1?", 2);
        fault("1?2", -1);
        fault("1??2", 2);
        fault("1?2?3", 3);
        fault("1?2;3?4", -1);
        fault("1?;2", 2);
        fault("(1?2)", 2);
        Due.sentence("The first LINE without a first E, or whose first E is not 0, counts; none: 0");
        lands("5;6", 0, 5);
        lands("0?5;6;7", 0, 6);
        lands("1?5;6", 0, 5);
        lands("0?5;1?6;7", 0, 6);
        lands("0?5;0?6;7", 0, 7);
        lands("0?5", 0, 0);
        lands("0?5;0?6", 0, 0);
        lands("a=8?5;a=0?6", 8, 5);
        lands("a=8?5;a=0?6", 4, 0);
        lands("1?0;5", 0, 0);
    }

    private static void chainsOfSigns() {
        Due.sentence("E = A { | A }. A = B { & B }");
        fault("1|", 2);
        fault("|1", 0);
        fault("1||1", 2);
        fault("1&", 2);
        fault("&1", 0);
        fault("1&&1", 2);
        fault("1|&1", 2);
        fault("1|1|1&1&1|1", -1);
        gives("0|0|0", 0);
        gives("0|0|1", 1);
        gives("1&1&0", 0);
        gives("1|1&0", 1);
        gives("0&1|1", 1);
        Due.sentence("B = S, or S < S, S = S, S > S");
        fault("1<2", -1);
        fault("1<", 2);
        fault("<1", 0);
        for (String one : new String[] {"<", "=", ">"}) {
            for (String other : new String[] {"<", "=", ">"}) {
                fault("1" + one + "2" + other + "3", 3);
                fault("1" + one + other + "3", 2);
                fault("(1" + one + "2)" + other + "3", -1);
                fault("1" + one + "2&3" + other + "4", -1);
            }
        }
        gives("1+1=2", 1);
        gives("2=1+1", 1);
        gives("1<2|2<1", 1);
        Due.sentence("S = P { + P, - P }. P = O { * O, / O, % O }");
        fault("+1", 0);
        fault("1+", 2);
        fault("1-", 2);
        fault("1+*2", 2);
        fault("1**2", 2);
        fault("1*", 2);
        fault("*1", 0);
        fault("/1", 0);
        fault("%1", 0);
        fault("1/%2", 2);
        gives("9-4-3", 2);
        gives("9-4+3", 8);
        gives("8/2/2", 2);
        gives("8/2*2", 8);
        gives("7%4%2", 1);
        gives("2+3*4-6/2", 11);
        gives("2*3+4", 10);
    }

    private static void operands() {
        Due.sentence("a number (1 to 4 digits)");
        fault("0", -1);
        fault("9999", -1);
        fault("0000", -1);
        fault("00000", 4);
        fault("12345", 4);
        fault("1+12345", 6);
        fault("/", 0);
        fault(":", 0);
        gives("0", 0);
        gives("9", 9);
        gives("99", 99);
        gives("499", 499);
        gives("9999-9500", 499);
        gives("0012", 12);
        Due.sentence("! O, - O, ( E ). No blanks");
        fault("!", 1);
        fault("-", 1);
        fault("(", 1);
        fault(")", 0);
        fault("()", 1);
        fault("(1", 2);
        fault("1)", 1);
        fault("(1))", 3);
        fault("((1)", 4);
        fault("(1)(2)", 3);
        fault("1(2)", 1);
        fault("!+1", 1);
        fault("1!", 1);
        fault("!(1<2)", -1);
        fault("-(1|2)", -1);
        fault(" ", 0);
        fault(" 1", 0);
        fault("1 ", 1);
        fault("1 +1", 1);
        fault("1+ 1", 2);
        fault("( 1)", 1);
        fault("1;\n2", 2);
        fault("\t1", 0);
        gives("-3*2", -6);
        gives("3*-2", -6);
        gives("3--2", 5);
        gives("!0*5", 5);
        gives("!(0*5)", 1);
    }

    private static void names() {
        Due.sentence("NAMES: a the angle (0 .. 8, by tens of degrees), p MOUTH and SKILL together, z SIZE, w WET, e WIND,"
                + " t TIRES times how many it has spat ahead");
        for (int letter = 0; letter < 256; letter++) {
            StonesOver x = new StonesOver();
            x.feed(letter);
            boolean stands = "apzwet".indexOf(letter) >= 0 || letter >= '0' && letter <= '9';
            boolean goesOn = "(!-".indexOf(letter) >= 0;
            Due.is("law of byte " + letter, x.law(), stands ? 1 : goesOn ? -101 : -100);
        }
        fault("ap", 1);
        fault("a1", 1);
        fault("1a", 1);
        StonesOver x = Due.lane(0, "a*100+w");
        x.spitter(1, 0);
        x.spitter(9, 9);
        Due.is("the least angle", x.tries(0, 0, 0, 0), 0);
        Due.is("the greatest angle", x.tries(0, 0, 80, 0), 800);
        Due.is("wet 0", x.tries(0, 8000, 0, 0), 0);
        x.mend(8, 6, 1);
        Due.is("wet 1", x.tries(0, 8000, 0, 0), 1);
        Due.law(x, "p");
        Due.is("the least p", x.tries(0, 0, 0, 0), 1);
        Due.is("the greatest p", x.tries(1, 0, 0, 0), 18);
        Due.law(x, "z*10+9+e");
        x.mend(0, 5, 1);
        x.mend(8, 5, 9);
        x.mend(0, 7, -9);
        Due.is("the least size and wind", x.tries(0, 0, 0, 0), 10);
        x.mend(0, 7, 9);
        Due.is("the greatest size and wind", x.tries(0, 8000, 0, 0), 108);
        Due.law(x, "t");
        x.mend(0, 2, 0);
        x.mend(1, 2, 9);
        Due.is("who never tires", x.tries(0, 99, 0, 0), 0);
        Due.is("who tires most, fresh", x.tries(1, 0, 0, 0), 0);
        Due.is("who tires most", x.tries(1, 99, 0, 0), 891);
        for (int i = 0; i < 111; i++) {
            Due.is("in deed, " + i + " ahead", x.spit(1, 0, 0), stop(9 * i) / 10 + (Math.abs(9 * i - 400) <= 5 ? 30 : 0));
        }
    }

    private static int stop(int lands) {
        return Math.abs(lands - 400) <= 5 ? lands : Math.min(999, lands + lands / 10);
    }

    private static void atMostSixOpen() {
        Due.sentence("At most 6 of ( ! - ahead of an O are open at once");
        for (String sign : new String[] {"(", "!", "-"}) {
            String end = sign.equals("(") ? ")" : "";
            fault(sign.repeat(6) + "1" + end.repeat(6), -1);
            fault(sign.repeat(7) + "1" + end.repeat(7), 6);
            fault(sign.repeat(7), 6);
            fault("1+" + sign.repeat(7), 8);
            fault("1?" + sign.repeat(7), 8);
            fault("1;" + sign.repeat(7), 8);
            fault(sign + "1" + end + ("*" + sign + "1" + end).repeat(20), -1);
        }
        fault("(!-(!-1))", -1);
        fault("(!-(!-(1)))", 6);
        fault("!-!-!-a", -1);
        fault("!-!-!--a", 6);
        fault("((((((1)+(1)))+(1))+((1))))", -1);
        fault("((((((1)+((1)))+(1))+((1))))", 10);
        fault("(((((1)+(1)))+((1))))", -1);
        fault("1-1-1-1-1-1-1-1-1-1", -1);
        fault("((((((1-1-1-1-1-1-1))))))", -1);
        fault("((((((1--1))))))", 8);
        fault("!!!!!!1+!!!!!!1;!!!!!!1?!!!!!!1", -1);
        gives("!!!!!0", 1);
        gives("-----7", -7);
        // Every one of the six with all that can wait ahead of it.
        String waits = "0|1&1<1+1*(";
        lands(waits.repeat(6) + "0|1&1<1+1*2" + ")".repeat(6), 0, 1);
        lands("1+1*(".repeat(6) + "7" + ")".repeat(6), 0, 13);
    }

    private static void intsThatWrap() {
        Due.sentence("Ints that wrap; / and % toward 0, by 0 they give 0");
        gives(LEAST_INT + "<0", 1);
        gives(LEAST_INT + "-1>0", 1);
        gives(LEAST_INT + "-1+1<0", 1);
        gives("0-" + LEAST_INT + "-1<0", 0);
        gives("-(" + LEAST_INT + ")<0", 1);
        gives("-(" + LEAST_INT + ")=" + LEAST_INT, 1);
        gives(LEAST_INT + "*2", 0);
        gives(LEAST_INT + "*3=" + LEAST_INT, 1);
        gives(LEAST_INT + "/-1<0", 1);
        gives(LEAST_INT + "%-1", 0);
        gives("(" + LEAST_INT + "-1)*2", -2);
        gives("(" + LEAST_INT + ")%10", -8);
        gives("(" + LEAST_INT + "-1)%10", 7);
        gives("7/2", 3);
        gives("-7/2", -3);
        gives("7/-2", -3);
        gives("-7/-2", 3);
        gives("7%2", 1);
        gives("-7%2", -1);
        gives("7%-2", 1);
        gives("-7%-2", -1);
        gives("1/2", 0);
        gives("7/0", 0);
        gives("-7/0", 0);
        gives("0/0", 0);
        gives("7%0", 0);
        gives("-7%0", 0);
        gives("0%0", 0);
        gives("5+7/a", 5);
        gives(LEAST_INT + "/0", 0);
    }

    private static void whatSignsGive() {
        Due.sentence("| & < = > ! give 1, 0; all is worked out");
        gives("0|0", 0);
        gives("0|7", 1);
        gives("7|0", 1);
        gives("7|8", 1);
        gives("0|-1", 1);
        gives("0&0", 0);
        gives("0&7", 0);
        gives("7&0", 0);
        gives("4&8", 1);
        gives("-1&-1", 1);
        gives("6<7", 1);
        gives("7<7", 0);
        gives("8<7", 0);
        gives("6=7", 0);
        gives("7=7", 1);
        gives("8=7", 0);
        gives("6>7", 0);
        gives("7>7", 0);
        gives("8>7", 1);
        gives("-8<7", 1);
        gives("!0", 1);
        gives("!1", 0);
        gives("!7", 0);
        gives("!-7", 0);
        gives("!!7", 1);
        gives("1|1/0", 1);
        gives("0&1%0", 0);
    }

    private static void faults() {
        Due.sentence("FAULT: the place (from 0) of the first byte with which no TEXT goes on; the length, if it ends too early");
        fault("b", 0);
        fault("b+", 0);
        fault("1+b+", 2);
        fault("1b2c", 1);
        fault(ones(60) + "b", 119);
        fault(ones(59) + "b", 117);
        fault(ones(59) + "+", 118);
        fault(ones(59) + "+(", 119);
        fault("1+", 2);
        fault("1+(2", 4);
        fault("1;2?", 4);
        fault("" + (char) 0, 0);
        fault("1" + (char) 255, 1);
        fault("1?2;3;4?5+6*!", 13);
    }

    private static void held() {
        Due.sentence("It gives how far it LANDS in tenths of a yard (held within 0 .. 999)");
        lands("0", 0, 0);
        lands("-1", 0, 0);
        lands("0-9999", 0, 0);
        lands("1", 0, 1);
        lands("998", 0, 998);
        lands("999", 0, 999);
        lands("1000", 0, 999);
        lands("9999", 0, 999);
        lands(LEAST_INT, 0, 0);
        lands(LEAST_INT + "-1", 0, 999);
        StonesOver x = Due.lane(1, "-1");
        x.mend(0, 9, 0);
        Due.is("what is held at 0 is in the barrel there", x.tries(0, 0, 0, 2), 30);
        x.mend(0, 9, 999);
        Due.law(x, "1000");
        Due.is("what is held at 999 is in the barrel there", x.tries(0, 0, 0, 2), 129);
    }

    private static void withoutAText() {
        Due.sentence("Without a text: p times (9 less how far a is from 4), times 2, and 6 w, less z z by 2 (cut), and e times a,"
                + " less t");
        StonesOver x = new StonesOver();
        x.spitter(1, 0);
        x.spitter(9, 9);
        int[] cut = {0, 2, 4, 8, 12, 18, 24, 32, 40};
        for (int size = 1; size <= 9; size++) {
            x.mend(0, 5, size);
            Due.is("size " + size, x.tries(1, 0, 40, 0), 18 * 9 * 2 - cut[size - 1]);
            Due.is("size " + size + ", the weakest", x.tries(0, 0, 40, 0), Math.max(0, 18 - cut[size - 1]));
        }
        x.mend(0, 5, 1);
        int[] times = {5, 6, 7, 8, 9, 8, 7, 6, 5};
        for (int angle = 0; angle < 9; angle++) {
            Due.is("angle " + angle, x.tries(1, 0, 10 * angle, 0), 18 * times[angle] * 2);
            x.mend(0, 7, -9);
            Due.is("angle " + angle + ", against the wind", x.tries(0, 0, 10 * angle, 0),
                    Math.max(0, times[angle] * 2 - 9 * angle));
            x.mend(0, 7, 9);
            Due.is("angle " + angle + ", before the wind", x.tries(0, 0, 10 * angle, 0), times[angle] * 2 + 9 * angle);
            x.mend(0, 7, 0);
        }
        x.mend(0, 6, 1);
        Due.is("wet", x.tries(0, 0, 40, 0), 24);
        Due.is("tired", x.tries(0, 23, 40, 0), 1);
        Due.is("more tired", x.tries(0, 24, 40, 0), 0);
        Due.is("most tired", x.tries(0, 99, 40, 0), 0);
    }

    private static void withARun() {
        Due.sentence("With a RUN (1) p is 3 more in THE LAW (t as ever)");
        StonesOver x = Due.lane(0, "p*10");
        x.spitter(1, 0);
        x.spitter(9, 9);
        Due.is("the weakest", x.tries(0, 0, 1, 0), 40);
        Due.is("the strongest", x.tries(1, 0, 1, 0), 210);
        Due.is("without", x.tries(1, 0, 0, 0), 180);
        Due.law(x, "t");
        Due.is("t", x.tries(1, 99, 1, 0), 99);
    }
}
