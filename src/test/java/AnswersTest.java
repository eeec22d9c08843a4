/** The document's paragraph on Answers: which of several is given, that a refused call changes nothing, and whose memory it is. */
public final class AnswersTest {
    private static final long LEAST = Integer.MIN_VALUE, MOST = Integer.MAX_VALUE;

    /** The calls that make something out of a new object: a bit of all that it can hold. */
    private static final String[] MAKING = {
        "spitter(5, 4)", "spitter(9, 9)", "spitter(3, 0)", "mend(0, 3, 4)", "mend(1, 2, 6)", "mend(2, 4, 7)", "mend(0, 5, 8)",
        "mend(8, 6, 1)", "mend(0, 9, 144)", "mend(0, 7, -3)", "mend(0, 8, 150)", "undo()", "undo()", "spit(0, 0, 40)",
        "spit(0, 0, 41)", "spit(1, 8, 30)", "image()", "spit(1, 2, 30)", "body(0)", "body(1)", "body(2)", "body(3)", "body(4)",
        "body(5)", "body(6)", "body(7)", "row(0, 0, 4)", "put(0, 0, 1)", "put(0, 1, 0)", "put(0, 2, 2)", "put(0, 3, 1)",
        "row(1, 1, 3)", "put(1, 0, 151)", "put(1, 1, 140)", "put(1, 2, -9)", "keep(2, 7)", "row(4, 3, 2)", "put(4, 1, -5)",
        "row(5, 4, 60)", "put(5, 59, 1)", "feed(97)", "feed(43)", "act(7, 3, 5)"};

    /** The same, but full of all that can be full, and with nothing that may be undone or laid back. */
    private static final String[] FILLING = {
        "row(0, 0, 18)", "put(0, 0, 1)", "put(0, 3, 2)", "put(0, 6, 3)", "put(0, 9, 4)", "put(0, 12, 5)", "put(0, 15, 6)",
        "spitters(0, 0, 6)", "row(1, 1, 1)", "keep(2, -1)", "row(4, 2, 1)", "spit(5, 0, 40)"};

    private static final String[] ASKING_CALLS = {
        "tries(0, 2003, 41, 2)", "tries(1, 99, 80, 0)", "angle(1, 1000, 0)", "angle(1, 1000, 1)", "angle(2, 0, 2)",
        "order(0, 711, 3, -1)", "order(1, 5080, 0, 6)", "risk(0, 0, 101, 1)", "risk(2, 5, 30, 0)", "risks(0, 0, 109, 1)",
        "risks(0, 0, 109, 2)", "practice(0, 0, 15, 0)", "practice(0, 0, 15, 1)", "practice(0, 0, 999, 1)", "match(0, 90, 1)",
        "match(0, 31, 5)", "winner(0, 91)", "last(0, 51, 0)", "last(0, 50, 2)", "place(0, 30, 1)", "handicap(0, 91, 1)",
        "steps(2, 99)", "whose(99, 9)", "judge(1, 4)", "judge(1, 14)", "who(1, 0)", "who(1, 1)", "ahead(1, 14)",
        "drawn(0, 0, 77, 9911)", "drawn(1, 3000, -1, 9900)", "of(0, 3)", "led(1, 1)", "led(0, 4)", "trace(0)", "element(4, 1)",
        "taken(2, 1)", "taken(2, 6)", "count(0)", "count(4)", "shift(4, 0, 4, 0, 2)", "shift(0, 4, 0, 4, 0)", "mend(0, 7, 0)",
        "mend(2, 4, 7)", "keep(2, 7)", "keep(3, -1)", "put(0, 0, 1)"};

    private static final String[] ENDING_CALLS = {
        "back()", "led(0, 0)", "led(0, 1)", "led(0, 2)", "led(1, 0)", "led(1, 1)", "led(1, 2)", "led(0, 3)", "led(0, 4)", "led(0, 5)",
        "redo()", "of(0, 7)", "redo()", "of(0, 8)", "redo()", "undo()", "undo()", "undo()", "of(0, 9)", "undo()", "of(8, 6)",
        "undo()", "of(0, 5)", "undo()", "of(2, 4)", "undo()", "of(1, 2)", "undo()", "of(0, 3)", "undo()", "spit(1, 0, 40)", "rest()",
        "law()", "tries(0, 0, 70, 0)", "feed(112)", "law()", "tries(1, 0, 70, 0)", "body(3)", "keep(3, 8)", "taken(3, 3)",
        "spitter(1, 1)"};

    public static void main(String[] args) {
        ask();
        Due.close("AnswersTest");
    }

    static void ask() {
        theOneNamedFirst();
        theOneNamedFirstOfShelves();
        changesNothing();
        whatIsFullChangesNothing();
        thoughtChangesNothing();
        itsOwnMemory();
    }

    private static StonesOver made() {
        StonesOver x = new StonesOver();
        for (String call : MAKING) {
            Calls.ask(x, call);
        }
        return x;
    }

    private static StonesOver full() {
        StonesOver x = new StonesOver();
        for (String call : FILLING) {
            Calls.ask(x, call);
        }
        for (int i = 0; i < 120; i++) {
            x.feed(i == 0 ? '7' : i % 2 == 0 ? '1' : '0');
        }
        for (int i = 0; i < 50; i++) {
            x.body(i % 8);
        }
        x.act(49, 3, 5);
        return x;
    }

    private static void theOneNamedFirst() {
        Due.sentence("Answers, of several the one named first: BAD (-1): no such number, or it is not as said; NOT (-2): as told;"
                + " FULL (-3); STATE (-5): as told; -11 to -14");
        StonesOver x = full();
        Calls.are(x, "spitter(0, 0) = -1", "spitter(1, 10) = -1", "spitter(1, 1) = -3", "feed(256) = -1", "feed(-1) = -1",
                "feed(48) = -3", "body(8) = -1", "body(-1) = -1", "body(0) = -3");
        // Eight stones, or more than there are, or both; and what is not as said ahead of them.
        Calls.are(x, "order(0, 2550, 0, 0) = -5", "order(0, 2550, 0, 8) = -5", "order(0, 2550, 0, 9) = -5", "order(0, 5111, 0, 9) = -5",
                "order(0, 1270, 0, 7) = -2", "order(6, 2550, 0, 8) = -1", "order(0, 2552, 0, 8) = -1", "order(0, 2550, 100, 8) = -1",
                "order(0, 2550, 0, -2) = -1", "order(0, 1270, 100, 7) = -1", "order(6, 1270, 0, 7) = -1", "order(0, 5120, 0, 9) = -1");
        Calls.are(x, "practice(0, 0, 999, 0) = -2", "practice(0, 0, 999, 2) = -1", "practice(6, 0, 999, 0) = -1",
                "practice(0, 0, 1000, 0) = -1", "practice(0, 100, 999, 0) = -1");
        Calls.are(x, "spitters(6, 0, 1) = -1", "spitters(1, 0, 7) = -1", "spitters(1, 0, 1) = -12", "spitters(1, -1, 0) = -1",
                "spitters(2, 0, 7) = -1", "spitters(0, 0, 6) = 0");
    }

    private static void theOneNamedFirstOfShelves() {
        Due.sentence("-11 to -14. VOID is -2000000000");
        StonesOver x = full();
        // SHELF 0 holds bytes, of whom nobody is a SPITTER's number twice; 1 shorts; 2 and 3 nothing; 4 ints; 5 a TRY.
        x.keep(5, 0);
        x.put(0, 0, 9);
        Calls.are(x, "match(2, 100, 0) = -1", "match(2, 10, -1) = -1", "match(2, 10, 0) = -11", "match(1, 12, 0) = -1",
                "match(1, 10, -1) = -1", "match(1, 10, 9) = -12", "match(5, 10, 9) = -12", "match(0, 100, 9) = -1",
                "match(0, 10, -1) = -1", "match(0, 10, 9) = -2");
        Calls.are(x, "winner(2, 9) = -1", "winner(2, 10) = -11", "winner(1, 12) = -1", "winner(1, 10) = -12", "winner(0, 9) = -1",
                "winner(0, 10) = -2");
        Calls.are(x, "last(2, 10, 3) = -9223372036854775808", "last(0, 10, 3) = -9223372036854775808", "last(0, 10, 0) = -2",
                "last(0, 9, 0) = -9223372036854775808");
        Calls.are(x, "place(2, 10, 6) = -1", "place(2, 10, 0) = -11", "place(1, 10, 6) = -1", "place(1, 10, 0) = -12",
                "place(0, 10, 6) = -1", "place(0, 9, 0) = -1", "place(0, 10, 0) = -2");
        Calls.are(x, "handicap(2, 10, 6) = -1", "handicap(2, 10, 0) = -11", "handicap(1, 10, 6) = -1", "handicap(1, 10, 0) = -12",
                "handicap(0, 10, 6) = -1", "handicap(0, 9, 0) = -1", "handicap(0, 10, 0) = 0");
        Calls.are(x, "judge(2, 9) = -1", "judge(2, 0) = -11", "judge(0, 60) = -1", "judge(0, 0) = -12", "judge(1, 9) = -1");
        Calls.are(x, "who(2, 2) = -1", "who(2, 0) = -11", "who(0, 2) = -1", "who(0, 0) = -12", "who(1, 2) = -1");
        Calls.are(x, "ahead(2, 9) = -1", "ahead(2, 0) = -11", "ahead(0, 60) = -1", "ahead(0, 0) = -12", "ahead(1, 9) = -1");
        Calls.are(x, "keep(6, 0) = -1", "keep(0, 50) = -1", "row(6, 0, -1) = -1", "row(0, 5, -1) = -1", "row(0, 5, 61) = -1",
                "row(0, 0, 61) = -1", "row(0, 0, -1) = -14");
        Calls.are(x, "put(6, 99, 1) = -1", "put(2, 99, 1) = -11", "put(5, 99, 1) = -12", "put(0, 99, 1) = -13");
        Calls.are(x, "shift(6, 0, 2, 0, 1) = -1", "shift(2, 0, 6, 0, 1) = -1", "shift(2, 99, 5, 0, 1) = -11", "shift(5, 0, 2, 99, 1) = -11",
                "shift(2, 99, 0, 0, 1) = -11", "shift(0, 0, 5, 99, 1) = -12", "shift(5, 0, 0, 99, 1) = -12", "shift(0, 0, 1, 99, 1) = -12",
                "shift(0, 0, 1, 0, -1) = -12", "shift(0, 0, 0, 99, 1) = -13", "shift(2, 0, 0, 0, -1) = -11");
        Calls.are(x, "taken(6, 8) = -1", "taken(2, 8) = -1", "taken(0, 8) = -1", "taken(5, 8) = -1", "taken(2, 0) = -11",
                "taken(0, 0) = -12", "taken(5, 1) = -12", "taken(5, 0) = 0");
        Calls.are(x, "mend(6, 0, 99) = -2000000000", "mend(0, 13, 0) = -2000000000", "of(6, 0) = -2000000000", "of(0, 13) = -2000000000");
    }

    /** All that can be asked of an object without changing it, and then what it still answers when it is changed. */
    private static long[] told(StonesOver x) {
        long[] answers = new long[400];
        int n = 0;
        for (int spitter = 0; spitter < 6; spitter++) {
            for (int what = 0; what <= 4; what++) {
                answers[n++] = x.of(spitter, what);
            }
            for (int what = 0; what <= 2; what++) {
                answers[n++] = x.led(spitter, what);
            }
        }
        for (int stone = 0; stone < 9; stone++) {
            answers[n++] = x.of(stone, 5) * 10 + x.of(stone, 6);
        }
        for (int what = 7; what <= 12; what++) {
            answers[n++] = x.of(0, what);
        }
        for (int what = 3; what <= 5; what++) {
            answers[n++] = x.led(0, what);
        }
        for (int what = 0; what <= 4; what++) {
            answers[n++] = x.count(what);
        }
        for (int i = 0; i < 16; i++) {
            answers[n++] = x.trace(i);
        }
        for (int shelf = 0; shelf < 6; shelf++) {
            answers[n++] = x.taken(shelf, 0);
            for (int i = 0; i < 5; i++) {
                answers[n++] = x.element(shelf, i);
            }
            answers[n++] = x.element(shelf, 59);
            answers[n++] = x.element(shelf, 60);
            answers[n++] = x.shift(shelf, 0, shelf, 0, 0);
        }
        answers[n++] = x.tries(0, 0, 40, 0);
        answers[n++] = x.tries(1, 8007, 71, 0);
        for (String call : ENDING_CALLS) {
            answers[n++] = Calls.ask(x, call);
        }
        return answers;
    }

    private static int firstUnlike(long[] some, long[] others) {
        for (int i = 0; i < some.length; i++) {
            if (some[i] != others[i]) {
                return i;
            }
        }
        return -1;
    }

    private static boolean isRefusal(String name, long answer) {
        switch (name) {
            case "last": case "risk": case "risks": case "element":
                return answer == Long.MIN_VALUE;
            case "mend": case "of":
                return answer == StonesOver.VOID;
            default:
                return answer < 0;
        }
    }

    /** Each value of each argument, beyond its bounds, with the others as they are. */
    private static void refusedOne(long[] want, String name, long[] args, int arg, long value) {
        StonesOver x = made();
        long[] given = args.clone();
        given[arg] = value;
        String call = Calls.told(name, given);
        Due.is(call + " is refused", isRefusal(name, Calls.ask(x, call)) ? 1 : 0, 1);
        Due.is(call + " changes nothing; the first unlike answer", firstUnlike(want, told(x)), -1);
    }

    private static void refused(long[] want, String name, long[] args, long[][] beyond) {
        for (int arg = 0; arg < args.length; arg++) {
            for (long value : beyond[arg]) {
                refusedOne(want, name, args, arg, value);
            }
        }
    }

    private static void changesNothing() {
        Due.sentence("What is answered so changes nothing");
        long[] want = told(made());
        Due.is("one object is like another", firstUnlike(want, told(made())), -1);
        long[] no = {}, spitters = {-1, 3, LEAST, MOST}, shelves = {-1, 6, LEAST, MOST};
        refused(want, "spitter", new long[] {1, 0}, new long[][] {{0, 10, -1, LEAST, MOST}, {-1, 10, LEAST, MOST}});
        refused(want, "spitters", new long[] {0, 0, 1}, new long[][] {{-1, 6, 1, 2, 4, 5}, no, {0, 7, -1, LEAST, MOST}});
        refused(want, "mend", new long[] {0, 0, 1}, new long[][] {spitters, {-1, 13, LEAST, MOST}, {0, 10, LEAST, MOST}});
        refused(want, "mend", new long[] {0, 5, 1}, new long[][] {{-1, 9}, no, {0, 10}});
        refused(want, "mend", new long[] {0, 7, 1}, new long[][] {{-1, 1}, no, {-10, 10}});
        refused(want, "of", new long[] {0, 0}, new long[][] {spitters, {-1, 13, LEAST, MOST}});
        refused(want, "feed", new long[] {97}, new long[][] {{-1, 256, LEAST, MOST}});
        long[] sks = {-1, 100, 9000, LEAST, MOST};
        refused(want, "tries", new long[] {0, 0, 0, 0}, new long[][] {spitters, sks, {-1, 2, 90}, {-1, 3}});
        refused(want, "angle", new long[] {0, 0, 0}, new long[][] {spitters, sks, {-1, 3}});
        refused(want, "order", new long[] {0, 70, 0, 0}, new long[][] {spitters, {-1, 72, 5120, 5110, 2550}, {-1, 100}, {-2, 3}});
        refused(want, "risk", new long[] {0, 0, 0, 0}, new long[][] {spitters, sks, {-1, 2, 10000}, {-1, 2}});
        refused(want, "risks", new long[] {0, 0, 1, 0}, new long[][] {spitters, sks, {-1, 0, 10001}, {-1, 3}});
        refused(want, "practice", new long[] {0, 0, 0, 0}, new long[][] {spitters, sks, {-1, 999, 1000}, {-1, 2}});
        long[] nrs = {-1, 9, 12, 100, LEAST, MOST}, notBytes = {-1, 6, 1, 2, 3, 4, 5};
        refused(want, "match", new long[] {0, 10, 0}, new long[][] {notBytes, nrs, {-1, 3, MOST, LEAST}});
        refused(want, "winner", new long[] {0, 10}, new long[][] {notBytes, nrs});
        refused(want, "last", new long[] {0, 10, 0}, new long[][] {notBytes, nrs, {-1, 3}});
        refused(want, "place", new long[] {0, 10, 1}, new long[][] {notBytes, nrs, {-1, 3, 2}});
        refused(want, "handicap", new long[] {0, 10, 0}, new long[][] {notBytes, nrs, {-1, 3}});
        refused(want, "steps", new long[] {0, 0}, new long[][] {spitters, {-1, 1000}});
        refused(want, "whose", new long[] {0, 0}, new long[][] {{-1, 1000}, {-1, 1000}});
        long[] notShorts = {-1, 6, 0, 2, 3, 4, 5}, sas = {-1, 9, 30, LEAST, MOST};
        refused(want, "judge", new long[] {1, 0}, new long[][] {notShorts, sas});
        refused(want, "who", new long[] {1, 0}, new long[][] {notShorts, {-1, 2}});
        refused(want, "ahead", new long[] {1, 0}, new long[][] {notShorts, sas});
        refused(want, "drawn", new long[] {0, 0, 0, 100}, new long[][] {spitters, sks, no, {-1, 99, 102, 120, 10000}});
        refused(want, "spit", new long[] {0, 0, 0}, new long[][] {spitters, {-1, 9, LEAST, MOST}, {-1, 2, 90, LEAST, MOST}});
        refused(want, "led", new long[] {0, 0}, new long[][] {spitters, {-1, 6}});
        refused(want, "led", new long[] {0, 3}, new long[][] {{-1, 1}, no});
        refused(want, "body", new long[] {0}, new long[][] {{-1, 8, LEAST, MOST}});
        refused(want, "trace", new long[] {0}, new long[][] {{-1, 14, 24, LEAST, MOST}});
        refused(want, "keep", new long[] {0, 0}, new long[][] {shelves, {-2, 8, LEAST, MOST}});
        refused(want, "row", new long[] {0, 0, 4}, new long[][] {shelves, {-1, 5, LEAST, MOST}, {-1, 61, LEAST, MOST}});
        refused(want, "put", new long[] {0, 0, 3}, new long[][] {{-1, 6, 2, 3, LEAST, MOST}, {-1, 4, LEAST, MOST}, no});
        refused(want, "element", new long[] {0, 0}, new long[][] {{-1, 6, 2, 3}, {-1, 4, LEAST, MOST}});
        refused(want, "shift", new long[] {0, 0, 0, 1, 3},
                new long[][] {{-1, 6, 1, 2, 3}, {-1, 2, LEAST, MOST}, {-1, 6, 1, 2, 3}, {-1, 2, LEAST, MOST}, {-1, 4, LEAST, MOST}});
        refused(want, "taken", new long[] {2, 0}, new long[][] {{-1, 6, 0, 3}, {-1, 8, 2, 3, 5, 6}});
        refused(want, "count", new long[] {0}, new long[][] {{-1, 5, LEAST, MOST}});
    }

    private static void whatIsFullChangesNothing() {
        Due.sentence("Answers, of several the one named first: BAD (-1)");
        String[] calls = {"spitter(1, 1)", "spitter(0, 1)", "feed(49)", "feed(256)", "body(0)", "body(8)", "undo()", "redo()", "back()",
            "mend(6, 0, 1)", "keep(0, 50)", "order(0, 2550, 0, 0)"};
        long[] want = told(full());
        for (String call : calls) {
            StonesOver x = full();
            Due.is(call + " is refused", isRefusal(call.substring(0, call.indexOf('(')), Calls.ask(x, call)) ? 1 : 0, 1);
            Due.is(call + " changes nothing; the first unlike answer", firstUnlike(want, told(x)), -1);
        }
        StonesOver x = full();
        Due.is("spitters from the row", x.spitters(0, 0, 6), 0);
        Due.is("none came; the first unlike answer", firstUnlike(want, told(x)), -1);
        StonesOver y = new StonesOver();
        long[] fresh = told(new StonesOver());
        Calls.are(y, "undo() = -5", "redo() = -5", "back() = -5", "act(0, 0, 0) = 0", "spitters(0, 0, 1) = 0", "rest() = 0");
        Due.is("a new one is as new; the first unlike answer", firstUnlike(fresh, told(y)), -1);
    }

    private static void thoughtChangesNothing() {
        Due.sentence("---- tries in thought");
        long[] want = told(made());
        for (String call : ASKING_CALLS) {
            StonesOver x = made();
            long first = Calls.ask(x, call);
            Due.is(call + " once more", Calls.ask(x, call), first);
            Due.is(call + " changes nothing; the first unlike answer", firstUnlike(want, told(x)), -1);
        }
        StonesOver all = made();
        for (String call : ASKING_CALLS) {
            Calls.ask(all, call);
        }
        Due.is("all of them change nothing; the first unlike answer", firstUnlike(want, told(all)), -1);
    }

    private static void itsOwnMemory() {
        Due.sentence("All memory is the class's own");
        StonesOver x = new StonesOver();
        StonesOver y = new StonesOver();
        StonesOver z = new StonesOver();
        for (int i = 0; i < MAKING.length; i++) {
            Calls.ask(x, MAKING[i]);
            Calls.ask(y, FILLING[i % FILLING.length]);
            Calls.ask(z, ASKING_CALLS[i]);
            y.feed(i);
            y.body(i % 8);
            y.mend(i % 9, 5, 1 + i % 7);
            y.act(0, 3, i);
            y.image();
            Due.law(z, "9" + i);
        }
        Due.is("one is not changed by others; the first unlike answer", firstUnlike(told(made()), told(x)), -1);
    }
}
