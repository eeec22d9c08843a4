/** The document's promises, sentence by sentence: what each takes at its least and its greatest, and what it answers beyond. */
public final class PromisesTest {
    private static final String NONE = "= -9223372036854775808", VOID = "= -2000000000";

    public static void main(String[] args) {
        ask();
        Due.close("PromisesTest");
    }

    static void ask() {
        aNewObject();
        whoComes();
        numbers();
        theTape();
        thought();
        risks();
        practice();
        matches();
        lastAndFirst();
        steps();
        marks();
        draws();
        deeds();
        imageAndChanges();
        acts();
        shelves();
        elements();
        counts();
    }

    /** Each of the calls is answered alike. */
    private static void all(StonesOver x, String answer, String... calls) {
        for (String call : calls) {
            Calls.are(x, call + " " + answer);
        }
    }

    /** POINTS are 10 by p (9, 12 with a RUN), less one for each that is ahead, at all angles. */
    private static StonesOver lane(int spitters) {
        StonesOver x = Due.lane(spitters, "p*100-800-t*10");
        x.mend(0, 8, 0);
        x.mend(0, 9, 999);
        x.mend(0, 10, 0);
        return x;
    }

    private static void aNewObject() {
        Due.sentence("`StonesOver()`: A lane, a wall, nobody there");
        StonesOver x = new StonesOver();
        all(x, "= 0", "count(0)", "count(1)", "count(2)", "count(3)", "count(4)", "led(0, 3)", "led(0, 4)", "led(0, 5)", "rest()",
                "whose(0, 0)", "of(0, 7)", "of(0, 12)", "of(0, 6)", "of(8, 6)");
        all(x, "= -5", "undo()", "redo()", "back()");
        all(x, "= -1", "tries(0, 0, 0, 0)", "led(0, 0)", "trace(0)", "keep(0, 0)", "spit(0, 0, 0)");
        all(x, "= -11", "taken(0, 0)", "taken(5, 0)", "who(0, 0)", "put(5, 0, 0)");
        Calls.are(x, "of(0, 8) = 999", "of(0, 9) = 400", "of(0, 10) = 5", "of(0, 11) = -1", "of(0, 5) = 5", "of(8, 5) = 5",
                "of(0, 0) " + VOID, "law() = -100");
    }

    private static void whoComes() {
        Due.sentence("A SPITTER: its number. BAD, FULL: 6");
        StonesOver x = new StonesOver();
        all(x, "= -1", "spitter(0, 0)", "spitter(10, 0)", "spitter(1, -1)", "spitter(1, 10)", "spitter(-1, -1)",
                "spitter(2147483647, 0)", "spitter(-2147483648, 0)", "spitter(1, 2147483647)", "spitter(1, -2147483648)");
        Calls.are(x, "spitter(1, 0) = 0", "spitter(9, 9) = 1", "spitter(1, 9) = 2", "spitter(9, 0) = 3", "spitter(5, 5) = 4",
                "spitter(5, 5) = 5", "spitter(5, 5) = -3", "spitter(0, 5) = -1", "spitter(5, 10) = -1", "count(0) = 6");
        Due.sentence("SPITTERS FROM A ROW on a SHELF, from place i on, n (1 .. 6) of them: how many came. BAD, -12 (no ROW of bytes;"
                + " a SHELF that holds nothing is missing)");
        StonesOver y = new StonesOver();
        all(y, "= 0", "spitters(0, 0, 1)", "spitters(5, 0, 6)", "spitters(0, -1, 1)", "spitters(0, 60, 1)");
        Due.row(y, 0, 0, 1, 0, 0, 9, 9, 9, 5, 5, 5, 4, 4, 4, 3, 3, 3, 2, 2, 2);
        Due.row(y, 1, 1, 1, 0, 0);
        Due.row(y, 2, 2, 1, 0, 0);
        Due.row(y, 3, 3, 1, 0, 0);
        Due.row(y, 4, 4, 1, 0, 0);
        y.body(0);
        y.keep(5, 0);
        all(y, "= -12", "spitters(1, 0, 1)", "spitters(2, 0, 1)", "spitters(3, 0, 6)", "spitters(4, 0, 1)", "spitters(5, 0, 1)",
                "spitters(5, -1, 1)", "spitters(1, 60, 1)");
        all(y, "= -1", "spitters(-1, 0, 1)", "spitters(6, 0, 1)", "spitters(0, 0, 0)", "spitters(0, 0, 7)", "spitters(0, 0, -1)",
                "spitters(1, 0, 7)", "spitters(5, 0, 0)");
        Calls.are(y, "spitters(0, 15, 6) = 1", "spitters(0, 18, 6) = 0", "spitters(0, 16, 1) = 0", "spitters(0, 0, 1) = 1",
                "spitters(0, 0, 6) = 4", "spitters(0, 0, 6) = 0", "count(0) = 6", "of(0, 0) = 2", "of(1, 0) = 1", "of(3, 2) = 9",
                "of(5, 0) = 4");
    }

    private static void numbers() {
        Due.sentence("MOUTH (what 0), SKILL (1), TIRES (2), SLIPS (3), STEP (4) of a SPITTER, SIZE (5), WET (6) of a STONE, WIND (7),"
                + " GRASS (8), BARREL (9), RIM (10), HEN (11), LAUGHS (12; number 0 for these) becomes v: what it was. VOID: BAD");
        StonesOver x = Due.lane(2, "");
        int[] least = {1, 0, 0, 0, 1, 1, 0, -9, 0, 0, 0, -1, 0};
        int[] most = {9, 9, 9, 12, 20, 9, 1, 9, 999, 999, 20, 999, 12};
        int[] numbers = {2, 2, 2, 2, 2, 9, 9, 1, 1, 1, 1, 1, 1};
        for (int what = 0; what <= 12; what++) {
            for (int number = 0; number < numbers[what]; number++) {
                String of = number + ", " + what;
                long was = x.of(number, what);
                all(x, VOID, "mend(" + of + ", " + (least[what] - 1) + ")", "mend(" + of + ", " + (most[what] + 1) + ")");
                Calls.are(x, "of(" + of + ") = " + was, "mend(" + of + ", " + least[what] + ") = " + was, "of(" + of + ") = " + least[what],
                        "mend(" + of + ", " + most[what] + ") = " + least[what], "of(" + of + ") = " + most[what]);
            }
            for (int number : new int[] {numbers[what], -1, Integer.MAX_VALUE, Integer.MIN_VALUE}) {
                all(x, VOID, "mend(" + number + ", " + what + ", " + most[what] + ")");
            }
        }
        all(x, VOID, "mend(0, -1, 1)", "mend(0, 13, 1)", "mend(0, 2147483647, 1)", "mend(0, -2147483648, 1)");
        Due.sentence("As of mend() (0 to 12). VOID: BAD");
        for (int what = 0; what <= 12; what++) {
            for (int number : new int[] {numbers[what], -1, Integer.MAX_VALUE, Integer.MIN_VALUE}) {
                all(x, VOID, "of(" + number + ", " + what + ")");
            }
            Calls.are(x, "of(" + (numbers[what] - 1) + ", " + what + ") = " + most[what]);
        }
        all(x, VOID, "of(0, -1)", "of(0, 13)", "of(0, 2147483647)", "of(0, -2147483648)");
        all(new StonesOver(), VOID, "of(0, 0)", "of(0, 1)", "of(0, 2)", "of(0, 3)", "of(0, 4)", "mend(0, 4, 1)");
    }

    private static void theTape() {
        Due.sentence("A byte (0 .. 255) comes to THE TAPE: how many it has. BAD, FULL (120)");
        StonesOver x = new StonesOver();
        all(x, "= -1", "feed(-1)", "feed(256)", "feed(2147483647)", "feed(-2147483648)");
        Calls.are(x, "count(1) = 0", "feed(0) = 1", "feed(255) = 2");
        for (int i = 3; i <= 120; i++) {
            Calls.are(x, "feed(" + i + ") = " + i);
        }
        Calls.are(x, "feed(0) = -3", "feed(255) = -3", "feed(256) = -1", "feed(-1) = -1", "count(1) = 120");
        Due.sentence("THE TAPE becomes THE LAW: 1; -100 less its FAULT; THE TAPE is empty then");
        Calls.are(x, "law() = -100", "count(1) = 0", "feed(49) = 1", "law() = 1", "count(1) = 0", "law() = -100");
        Due.is("a fault at 119", Due.law(x, "1" + "+1".repeat(59) + "b"), -219);
        Calls.are(x, "count(1) = 0", "feed(49) = 1");
    }

    private static void thought() {
        Due.sentence("LANDS (what 0), STOPS (1), POINTS (2). BAD");
        StonesOver x = lane(1);
        x.mend(0, 8, 999);
        Calls.are(x, "tries(0, 0, 0, 0) = 100", "tries(0, 0, 0, 1) = 110", "tries(0, 0, 0, 2) = 11", "tries(0, 8000, 81, 0) = 400",
                "tries(0, 8099, 80, 0) = 0", "tries(0, 39, 81, 0) = 10");
        all(x, "= -1", "tries(1, 0, 0, 0)", "tries(-1, 0, 0, 0)", "tries(0, -1, 0, 0)", "tries(0, 100, 0, 0)", "tries(0, 8100, 0, 0)",
                "tries(0, 9000, 0, 0)", "tries(0, 0, -1, 0)", "tries(0, 0, 2, 0)", "tries(0, 0, 9, 0)", "tries(0, 0, 82, 0)",
                "tries(0, 0, 90, 0)", "tries(0, 0, 0, -1)", "tries(0, 0, 0, 3)", "tries(0, 2147483647, 0, 0)",
                "tries(0, 0, 2147483647, 0)", "tries(0, -2147483648, 0, 0)", "tries(0, 0, -2147483648, 0)");
        Due.sentence("BEST ANGLE without a RUN for STOPS (what 0), for POINTS (1), of all and RUN or not for POINTS (2). BAD");
        Calls.are(x, "angle(0, 0, 0) = 0", "angle(0, 8099, 1) = 0", "angle(0, 0, 2) = 1", "angle(0, 99, 2) = 0");
        all(x, "= -1", "angle(1, 0, 0)", "angle(-1, 0, 0)", "angle(0, -1, 0)", "angle(0, 100, 0)", "angle(0, 9000, 0)", "angle(0, 0, -1)",
                "angle(0, 0, 3)");
        Due.sentence("ORDER (sr: 10 times the set, and rule 0 the best, 1 together; k ahead): POINTS (i -1), the i-th STONE."
                + " BAD; STATE; NOT: there are not as many");
        x.mend(0, 8, 0);
        Calls.are(x, "order(0, 0, 0, -1) = 0", "order(0, 1, 99, -1) = 0", "order(0, 10, 0, -1) = 10", "order(0, 2561, 0, 0) = 8",
                "order(0, 1270, 0, -1) = 10", "order(0, 1271, 0, -1) = 49", "order(0, 1271, 0, 0) = 0", "order(0, 1271, 0, 6) = 6",
                "order(0, 1271, 99, 6) = 6");
        all(x, "= -2", "order(0, 0, 0, 0)", "order(0, 11, 0, 1)", "order(0, 1271, 0, 7)", "order(0, 1270, 0, 2147483647)");
        all(x, "= -5", "order(0, 2550, 0, -1)", "order(0, 2551, 99, 0)", "order(0, 5110, 0, 7)", "order(0, 5111, 0, 8)");
        all(x, "= -1", "order(1, 10, 0, -1)", "order(-1, 10, 0, -1)", "order(0, -1, 0, -1)", "order(0, 2, 0, -1)", "order(0, 9, 0, -1)",
                "order(0, 5112, 0, -1)", "order(0, 5120, 0, -1)", "order(0, 10, -1, -1)", "order(0, 10, 100, -1)", "order(0, 10, 0, -2)",
                "order(0, 10, 0, -2147483648)", "order(0, 2147483647, 0, -1)", "order(0, -2147483648, 0, -1)");
    }

    private static void risks() {
        Due.sentence("RISK of one try (xr: 10 x, and the RUN)");
        StonesOver x = lane(1);
        x.mend(0, 3, 2);
        Calls.are(x, "risk(0, 0, 0, 0) = 1", "risk(0, 0, 90, 1) = 1", "risk(0, 0, 100, 0) = 0", "risk(0, 0, 100, 1) = 1",
                "risk(0, 0, 1, 0) = 5", "risk(0, 0, 391, 1) = 6", "risk(0, 0, 401, 0) = 0", "risk(0, 0, 9991, 1) = 1",
                "risk(0, 8099, 9990, 0) = 0");
        all(x, NONE, "risk(1, 0, 0, 0)", "risk(-1, 0, 0, 0)", "risk(0, -1, 0, 0)", "risk(0, 100, 0, 0)", "risk(0, 9000, 0, 0)",
                "risk(0, 0, -1, 0)", "risk(0, 0, 2, 0)", "risk(0, 0, 9992, 0)", "risk(0, 0, 10000, 0)", "risk(0, 0, 0, -1)",
                "risk(0, 0, 0, 2)", "risk(0, 0, 2147483647, 0)", "risk(0, 0, -2147483648, 0)");
        Due.sentence("RISK of n tries (xn: 10 x and n): part 0, 1; whether the first is with a RUN (2)");
        Calls.are(x, "risks(0, 0, 1, 0) = 1", "risks(0, 0, 1, 1) = 1", "risks(0, 0, 1, 2) = 0", "risks(0, 0, 101, 0) = 5",
                "risks(0, 0, 101, 1) = 6", "risks(0, 0, 101, 2) = 1", "risks(0, 0, 109, 0) = 10077695", "risks(0, 0, 109, 1) = 10077696",
                "risks(0, 8099, 9999, 0) = 0", "risks(0, 0, 9991, 2) = 0");
        all(x, NONE, "risks(1, 0, 1, 0)", "risks(-1, 0, 1, 0)", "risks(0, -1, 1, 0)", "risks(0, 100, 1, 0)", "risks(0, 9000, 1, 0)",
                "risks(0, 0, 0, 0)", "risks(0, 0, 10, 0)", "risks(0, 0, 9990, 2)", "risks(0, 0, 10001, 0)", "risks(0, 0, -1, 0)",
                "risks(0, 0, 1, -1)", "risks(0, 0, 1, 3)", "risks(0, 0, 2147483647, 0)", "risks(0, 0, -2147483647, 0)");
    }

    private static void practice() {
        Due.sentence("PRACTICE for POINTS x (0 .. 999): SKILL (what 0), MOUTH (1). BAD; NOT");
        StonesOver x = lane(1);
        // POINTS are 10 by p, less 80: with SKILL 3 none, with 4 10, with 9 60; 30 more in the barrel.
        Calls.are(x, "practice(0, 0, 0, 0) = 0", "practice(0, 0, 1, 0) = 4", "practice(0, 0, 10, 0) = 4", "practice(0, 0, 11, 0) = 5",
                "practice(0, 0, 60, 0) = 9", "practice(0, 0, 61, 0) = -2", "practice(0, 0, 999, 0) = -2", "practice(0, 0, 0, 1) = 1",
                "practice(0, 0, 10, 1) = 5", "practice(0, 0, 50, 1) = 9", "practice(0, 0, 51, 1) = -2", "practice(0, 0, 999, 1) = -2",
                "practice(0, 8010, 50, 0) = 9", "practice(0, 8099, 1, 0) = -2", "practice(0, 99, 1, 1) = -2");
        all(x, "= -1", "practice(1, 0, 0, 0)", "practice(-1, 0, 0, 0)", "practice(0, -1, 0, 0)", "practice(0, 100, 0, 0)",
                "practice(0, 9000, 0, 0)", "practice(0, 0, -1, 0)", "practice(0, 0, 1000, 1)", "practice(0, 0, 0, -1)",
                "practice(0, 0, 0, 2)");
    }

    private static void matches() {
        Due.sentence("How much the i-th of the ROW has. BAD, -11, -12 (no ROW of bytes); NOT: there are not as many");
        StonesOver x = lane(6);
        Due.row(x, 0, 0, 5, 4, 3, 2, 1, 0);
        Due.row(x, 1, 0);
        Due.row(x, 2, 1, 0);
        x.body(0);
        x.keep(4, 0);
        Calls.are(x, "match(0, 10, 0) = 10", "match(0, 10, 5) = 10", "match(0, 91, 5) = 54", "match(0, 90, 0) = 10");
        all(x, "= -2", "match(0, 10, 6)", "match(0, 91, 2147483647)", "match(1, 10, 0)");
        all(x, "= -11", "match(3, 10, 0)", "match(5, 91, 9)");
        all(x, "= -12", "match(2, 10, 0)", "match(4, 10, 9)");
        all(x, "= -1", "match(-1, 10, 0)", "match(6, 10, 0)", "match(0, 9, 0)", "match(0, 12, 0)", "match(0, 92, 0)", "match(0, 100, 0)",
                "match(0, -1, 0)", "match(3, 9, 0)", "match(2, 100, 0)", "match(0, 2147483647, 0)", "match(0, -2147483648, 0)");
        Due.sentence("Who wins. BAD, -11, -12; NOT");
        Calls.are(x, "winner(0, 10) = 5", "winner(0, 91) = 5", "winner(1, 10) = -2", "winner(3, 10) = -11", "winner(2, 10) = -12",
                "winner(4, 91) = -12");
        all(x, "= -1", "winner(-1, 10)", "winner(6, 10)", "winner(0, 9)", "winner(0, 12)", "winner(0, 100)", "winner(0, 0)",
                "winner(3, 0)", "winner(2, 0)");
    }

    private static void lastAndFirst() {
        Due.sentence("LAST: the chance (part 0, 1), the bits (2)");
        StonesOver x = lane(6);
        Due.row(x, 0, 0, 5, 4, 3, 2, 1, 0);
        Due.row(x, 1, 0);
        Due.row(x, 2, 1, 0);
        x.mend(0, 3, 3);
        Calls.are(x, "last(0, 10, 0) = 3", "last(0, 10, 1) = 4", "last(0, 10, 2) = 1", "last(0, 90, 0) = 262143", "last(0, 90, 1) = 262144",
                "last(0, 90, 2) = 511", "last(1, 10, 0) = -2", "last(1, 10, 1) = -2", "last(1, 10, 2) = -2");
        all(x, NONE, "last(2, 10, 0)", "last(3, 10, 0)", "last(-1, 10, 0)", "last(6, 10, 0)", "last(0, 9, 0)", "last(0, 12, 0)",
                "last(0, 100, 0)", "last(0, 10, -1)", "last(0, 10, 3)", "last(1, 10, 3)");
        Due.sentence("GO FIRST. BAD, -11, -12; NOT (also: it is not in the ROW)");
        Calls.are(x, "place(0, 10, 0) = 0", "place(0, 91, 5) = 0", "place(1, 10, 0) = -2", "place(3, 10, 0) = -11", "place(2, 10, 0) = -12");
        x.mend(3, 1, 5);
        Calls.are(x, "place(0, 10, 3) = 5", "place(0, 10, 2) = -2");
        Due.row(x, 0, 0, 5, 4, 3, 2, 1);
        Calls.are(x, "place(0, 10, 0) = -2", "place(0, 10, 3) = 4");
        all(x, "= -1", "place(-1, 10, 0)", "place(6, 10, 0)", "place(0, 9, 0)", "place(0, 12, 0)", "place(0, 100, 0)", "place(0, 10, -1)",
                "place(0, 10, 6)", "place(3, 10, 6)", "place(2, 10, 6)");
        Due.sentence("HANDICAP (0: it does not win now; it is not in the ROW: 0). BAD, -11, -12; NOT");
        Calls.are(x, "handicap(0, 10, 0) = 0", "handicap(0, 10, 2) = 0", "handicap(0, 10, 3) = -2", "handicap(1, 10, 3) = 0",
                "handicap(3, 10, 0) = -11", "handicap(2, 10, 0) = -12");
        all(x, "= -1", "handicap(-1, 10, 0)", "handicap(6, 10, 0)", "handicap(0, 9, 0)", "handicap(0, 12, 0)", "handicap(0, 100, 0)",
                "handicap(0, 10, -1)", "handicap(0, 10, 6)", "handicap(3, 10, 6)", "handicap(2, 10, 6)");
    }

    private static void steps() {
        Due.sentence("MEASURED: x (0 .. 999) tenths in one's STEPS. BAD");
        StonesOver x = Due.lane(1, "");
        Calls.are(x, "steps(0, 0) = 0", "steps(0, 9) = 0", "steps(0, 10) = 1", "steps(0, 999) = 99", "mend(0, 4, 20) = 10",
                "steps(0, 999) = 49", "mend(0, 4, 1) = 20", "steps(0, 999) = 999");
        all(x, "= -1", "steps(0, -1)", "steps(0, 1000)", "steps(1, 0)", "steps(-1, 0)", "steps(0, 2147483647)", "steps(0, -2147483648)");
        Due.sentence("WHOSE STEPS: n (0 .. 999) for x. BAD");
        Calls.are(x, "whose(0, 0) = 1", "whose(999, 999) = 1", "whose(999, 998) = 0", "whose(0, 999) = 0", "whose(999, 0) = 0");
        all(x, "= -1", "whose(-1, 0)", "whose(1000, 0)", "whose(0, -1)", "whose(0, 1000)", "whose(2147483647, 0)", "whose(0, -2147483648)");
    }

    private static void marks() {
        Due.sentence("JUDGED (sa: 10 times the SPITTER, and the angle). BAD, -11, -12 (no ROW of shorts); NOT");
        StonesOver x = lane(6);
        Due.row(x, 0, 1, 100, 90);
        Due.row(x, 1, 0, 100, 90);
        Due.row(x, 2, 1, 60, 50);
        x.body(0);
        x.keep(4, 0);
        Calls.are(x, "judge(0, 0) = -2", "judge(0, 58) = -2", "judge(2, 0) = 0", "judge(3, 0) = -11", "judge(1, 0) = -12",
                "judge(4, 58) = -12");
        all(x, "= -1", "judge(-1, 0)", "judge(6, 0)", "judge(0, -1)", "judge(0, 9)", "judge(0, 59)", "judge(0, 60)", "judge(3, 9)",
                "judge(1, 60)");
        Due.sentence("WHO, AT WHICH: how many (what 0), the first (1; NOT). BAD, -11, -12");
        Calls.are(x, "who(0, 0) = 54", "who(0, 1) = 0", "who(2, 0) = 0", "who(2, 1) = -2", "who(3, 0) = -11", "who(1, 1) = -12",
                "who(4, 0) = -12");
        all(x, "= -1", "who(-1, 0)", "who(6, 0)", "who(0, -1)", "who(0, 2)", "who(3, 2)", "who(1, -1)");
        Due.sentence("AHEAD. BAD, -11, -12; NOT");
        Calls.are(x, "ahead(0, 0) = 0", "ahead(2, 58) = 4", "ahead(3, 0) = -11", "ahead(1, 0) = -12", "ahead(4, 0) = -12");
        Due.row(x, 2, 1, 60, 40);
        Calls.are(x, "ahead(2, 0) = -2");
        all(x, "= -1", "ahead(-1, 0)", "ahead(6, 0)", "ahead(0, -1)", "ahead(0, 9)", "ahead(0, 59)", "ahead(0, 60)", "ahead(3, 9)",
                "ahead(1, 60)");
    }

    private static void draws() {
        Due.sentence("DRAWN (nw: 100 n, and 10 the RUN, and 0 POINTS together, 1 the best). BAD");
        StonesOver x = lane(1);
        x.mend(0, 2, 0);
        Calls.are(x, "drawn(0, 0, 0, 100) = 10", "drawn(0, 0, 0, 101) = 10", "drawn(0, 0, 0, 110) = 40", "drawn(0, 0, 0, 9900) = 990",
                "drawn(0, 0, 0, 9901) = 10", "drawn(0, 0, 0, 9910) = 3960", "drawn(0, 8099, 2147483647, 9911) = 40",
                "drawn(0, 0, -2147483648, 9911) = 40");
        all(x, "= -1", "drawn(1, 0, 0, 100)", "drawn(-1, 0, 0, 100)", "drawn(0, -1, 0, 100)", "drawn(0, 100, 0, 100)",
                "drawn(0, 9000, 0, 100)", "drawn(0, 0, 0, 0)", "drawn(0, 0, 0, 11)", "drawn(0, 0, 0, 99)", "drawn(0, 0, 0, 102)",
                "drawn(0, 0, 0, 120)", "drawn(0, 0, 0, 190)", "drawn(0, 0, 0, 9912)", "drawn(0, 0, 0, 9920)", "drawn(0, 0, 0, 10000)",
                "drawn(0, 0, 0, -100)", "drawn(0, 0, 0, 2147483647)", "drawn(0, 0, 0, -2147483648)");
    }

    private static void deeds() {
        Due.sentence("SPIT: POINTS. BAD");
        StonesOver x = lane(2);
        Calls.are(x, "spit(0, 0, 0) = 10", "spit(0, 8, 81) = 39", "spit(1, 0, 80) = 10");
        all(x, "= -1", "spit(2, 0, 0)", "spit(-1, 0, 0)", "spit(0, -1, 0)", "spit(0, 9, 0)", "spit(0, 0, -1)", "spit(0, 0, 2)",
                "spit(0, 0, 9)", "spit(0, 0, 82)", "spit(0, 0, 90)", "spit(0, 0, 2147483647)", "spit(0, 0, -2147483648)");
        Due.sentence("REST: how many had been spat since the latest one");
        Calls.are(x, "rest() = 3", "rest() = 0", "spit(1, 0, 0) = 10", "rest() = 1", "rest() = 0");
        Due.sentence("LED of a SPITTER: POINTS (what 0), best (1; NOT: none), since a REST (2); number 0: tries (3), HENS (4), BARREL (5). BAD");
        x.spitter(5, 4);
        Calls.are(x, "led(0, 0) = 49", "led(0, 1) = 39", "led(0, 2) = 0", "led(1, 0) = 20", "led(1, 1) = 10", "led(2, 0) = 0",
                "led(2, 1) = -2", "led(2, 2) = 0", "led(0, 3) = 4", "led(0, 4) = 0", "led(0, 5) = 0");
        all(x, "= -1", "led(3, 0)", "led(3, 1)", "led(-1, 2)", "led(1, 3)", "led(-1, 4)", "led(1, 5)", "led(0, 6)", "led(0, -1)");
    }

    private static void imageAndChanges() {
        Due.sentence("AN IMAGE is kept: tries");
        StonesOver x = lane(1);
        Calls.are(x, "back() = -5", "image() = 0", "spit(0, 0, 0) = 10", "image() = 1");
        Due.sentence("It is laid back (SPITTERS that came since: nothing spat)");
        Calls.are(x, "spit(0, 0, 0) = 9", "spitter(5, 4) = 1", "spit(1, 0, 0) = 10", "back() = 1", "led(1, 0) = 0", "led(1, 1) = -2",
                "led(1, 2) = 0", "led(0, 0) = 10", "led(0, 2) = 1", "spit(0, 0, 0) = 9", "back() = 1", "led(0, 3) = 1");
        Due.sentence("UNDONE: how many may still be. STATE: none");
        Calls.are(x, "count(2) = 3", "undo() = 2", "undo() = 1", "undo() = 0", "undo() = -5", "of(0, 8) = 999", "of(0, 9) = 400",
                "of(0, 10) = 5", "count(2) = 0");
        Due.sentence("DONE AGAIN: how many may still be. STATE: none");
        Calls.are(x, "redo() = 2", "of(0, 8) = 0", "redo() = 1", "redo() = 0", "of(0, 10) = 0", "redo() = -5", "count(2) = 3");
    }

    private static void acts() {
        Due.sentence("A TRY of a KIND (0 .. 7) is kept: its number. BAD, FULL");
        StonesOver x = new StonesOver();
        all(x, "= -1", "body(-1)", "body(8)", "body(2147483647)", "body(-2147483648)");
        for (int i = 0; i < 50; i++) {
            Calls.are(x, "body(" + (49 - i) % 8 + ") = " + i);
        }
        Calls.are(x, "body(0) = -3", "body(7) = -3", "body(8) = -1", "count(3) = 50");
        Due.sentence("An ACT (0 .. 3) of a TRY with x");
        Calls.are(x, "act(49, 0, 1) = 50", "act(49, 1, 1) = 100", "act(49, 2, 1) = 48", "act(49, 3, 1) = 52", "act(0, 0, 1) = 4",
                "act(0, 3, 2147483647) = 3");
        all(x, "= 0", "act(50, 0, 1)", "act(-1, 0, 1)", "act(0, 4, 1)", "act(0, -1, 1)", "act(2147483647, 0, 1)", "act(0, -2147483648, 1)");
        Due.sentence("THE TRACE's i-th body. BAD");
        all(x, "= -1", "trace(0)", "trace(-1)");
        Calls.are(x, "act(49, 3, 1) = 52", "trace(0) = 2", "trace(1) = 10", "trace(2) = 1", "trace(3) = 11", "trace(4) = -1",
                "trace(-1) = -1", "trace(24) = -1", "trace(2147483647) = -1");
    }

    private static void shelves() {
        Due.sentence("A SHELF holds nothing (body -1), or a TRY: 1. BAD");
        StonesOver x = new StonesOver();
        all(x, "= -1", "keep(0, 0)", "keep(0, -2)", "keep(-1, -1)", "keep(6, -1)");
        x.body(4);
        Calls.are(x, "keep(0, 0) = 1", "keep(5, 0) = 1", "keep(0, 1) = -1", "keep(0, -2) = -1", "taken(0, 1) = 4", "keep(0, -1) = 1",
                "keep(0, -1) = 1", "taken(0, 1) = -11", "taken(5, 1) = 4");
        Due.sentence("A SHELF holds a ROW: 1. BAD (sort, n above 60); -14");
        Calls.are(x, "row(0, 0, 0) = 1", "row(5, 4, 60) = 1", "taken(5, 1) = -12", "row(1, 0, -1) = -14", "row(1, 0, -2147483648) = -14");
        all(x, "= -1", "row(0, -1, 1)", "row(0, 5, 1)", "row(0, 0, 61)", "row(0, 0, 2147483647)", "row(-1, 0, 1)", "row(6, 0, 1)",
                "row(0, 5, -1)", "row(6, 0, -1)");
        Calls.are(x, "put(1, 0, 1) = -11", "put(0, 0, 1) = -13", "put(5, 59, 1) = 1");
        Due.sentence("What a SHELF holds, taken for a TRY of KIND k (0 .. 7), or under it: its KIND. BAD, -11, -12");
        String[] above = {"0", "01", "02", "023", "014", "0235", "06", "0147"};
        for (int kind = 0; kind < 8; kind++) {
            x.body(kind);
            x.keep(2, kind + 1);
            for (int k = 0; k < 8; k++) {
                Calls.are(x, "taken(2, " + k + ") = " + (above[kind].contains("" + k) ? kind : -12));
            }
        }
        Calls.are(x, "taken(3, 0) = -11", "taken(3, 7) = -11", "taken(5, 0) = -12");
        all(x, "= -1", "taken(2, -1)", "taken(2, 8)", "taken(-1, 0)", "taken(6, 0)", "taken(3, 8)");
    }

    private static void elements() {
        Due.sentence("Element i of a ROW becomes v: 1. BAD, -11, -12, -13");
        StonesOver x = new StonesOver();
        x.body(0);
        Calls.are(x, "row(0, 3, 60) = 1", "keep(1, 0) = 1", "put(0, 0, -9223372036854775808) = 1", "put(0, 59, 9223372036854775807) = 1",
                "put(0, 60, 1) = -13", "put(0, -1, 1) = -13", "put(1, 0, 1) = -12", "put(2, 0, 1) = -11", "put(6, 0, 1) = -1",
                "put(-1, 0, 1) = -1");
        Due.sentence("Element i of a ROW; Long.MIN_VALUE: BAD, -11 to -13");
        Calls.are(x, "element(0, 59) = 9223372036854775807", "element(0, 0) " + NONE, "element(0, 1) = 0");
        all(x, NONE, "element(0, 60)", "element(0, -1)", "element(1, 0)", "element(2, 0)", "element(6, 0)", "element(-1, 0)");
        Due.sentence("as they all were before: n. BAD, -11 (either), -12 (no ROWS, or of unlike sorts), -13");
        Calls.are(x, "row(3, 3, 2) = 1", "row(4, 2, 2) = 1", "shift(0, 58, 3, 0, 2) = 2", "element(3, 1) = 9223372036854775807",
                "shift(0, 60, 3, 2, 0) = 0", "shift(3, 0, 3, 1, 1) = 1", "element(3, 1) = 0");
        all(x, "= -13", "shift(0, 59, 3, 0, 2)", "shift(0, 58, 3, 1, 2)", "shift(0, -1, 3, 0, 1)", "shift(0, 0, 3, -1, 1)",
                "shift(0, 0, 3, 0, -1)", "shift(0, 61, 3, 0, 0)", "shift(0, 0, 3, 3, 0)", "shift(0, 2147483647, 3, 0, 2)",
                "shift(0, 1, 3, 0, 2147483647)");
        all(x, "= -12", "shift(0, 0, 4, 0, 1)", "shift(1, 0, 0, 0, 1)", "shift(0, 0, 1, 0, 1)", "shift(1, 0, 1, 0, 1)");
        all(x, "= -11", "shift(2, 0, 0, 0, 1)", "shift(0, 0, 2, 0, 1)", "shift(2, 0, 2, 0, 0)", "shift(2, 0, 1, 0, 1)");
        all(x, "= -1", "shift(-1, 0, 0, 0, 1)", "shift(6, 0, 2, 0, 1)", "shift(0, 0, -1, 0, 1)", "shift(2, 0, 6, 0, 1)");
    }

    private static void counts() {
        Due.sentence("How many: 0 SPITTERS, 1 bytes on THE TAPE, 2 changes that may be UNDONE, 3 BODIES, 4 bodies that ran in the latest"
                + " act() (all, kept or not). BAD");
        StonesOver x = new StonesOver();
        Calls.are(x, "count(0) = 0", "count(1) = 0", "count(2) = 0", "count(3) = 0", "count(4) = 0", "spitter(1, 1) = 0", "feed(1) = 1",
                "feed(1) = 2", "mend(0, 7, 1) = 0", "mend(0, 7, 2) = 1", "mend(0, 7, 3) = 2", "undo() = 2", "body(7) = 0", "body(7) = 1",
                "body(7) = 2", "body(7) = 3", "act(3, 3, 0) = 10", "count(0) = 1", "count(1) = 2", "count(2) = 2", "count(3) = 4",
                "count(4) = 14", "act(3, 4, 0) = 0", "count(4) = 0");
        all(x, "= -1", "count(-1)", "count(5)", "count(2147483647)", "count(-2147483648)");
    }
}
