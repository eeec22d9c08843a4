import java.lang.reflect.InvocationTargetException;
import java.lang.reflect.Method;

/**
 * Each call with all its arguments at, just within and just beyond their bounds, in every combination and on lanes
 * of several kinds: which refusal comes first, and that nothing is ever thrown. The Model beside it says what is due.
 */
public final class GridTest {
    private static final long LEAST = Integer.MIN_VALUE, MOST = Integer.MAX_VALUE;
    private static final int CALLS = 512;

    private static final long[] SPITTERS = {LEAST, -1, 0, 2, 5, 6, MOST};
    private static final long[] SHELVES = {LEAST, -1, 0, 1, 2, 3, 4, 5, 6, MOST};
    private static final long[] SKS = {LEAST, -1000, -1, 0, 1, 99, 100, 999, 1000, 2099, 2100, 8000, 8099, 8100, 9000, MOST};
    private static final long[] NRS = {LEAST, -10, -1, 0, 1, 9, 10, 11, 12, 30, 31, 90, 91, 92, 100, 101, MOST};
    private static final long[] SAS = {LEAST, -1, 0, 4, 8, 9, 10, 18, 19, 24, 54, 58, 59, 60, MOST};
    private static final long[] PLACES = {LEAST, -1, 0, 1, 2, 59, 60, 61, MOST};

    private static final String[][] LANES = {
        {},
        {"spitter(5, 4)", "spitter(5, 4)", "spitter(9, 9)", "mend(0, 3, 4)", "mend(1, 3, 7)", "mend(2, 2, 6)", "mend(0, 5, 8)",
            "mend(2, 6, 1)", "mend(0, 9, 150)", "mend(0, 7, -3)", "mend(0, 8, 160)", "mend(0, 12, 3)", "undo()", "spit(0, 0, 40)",
            "image()", "spit(1, 2, 31)", "row(0, 0, 3)", "put(0, 0, 1)", "put(0, 1, 2)", "put(0, 2, 0)", "row(1, 1, 2)",
            "put(1, 0, 132)", "put(1, 1, 150)", "body(4)", "body(5)", "body(7)", "keep(2, 0)", "row(4, 3, 60)", "put(4, 59, -7)",
            "row(5, 4, 2)", "feed(112)", "act(2, 3, 9)"},
        {"row(0, 0, 18)", "put(0, 0, 1)", "put(0, 3, 2)", "put(0, 6, 3)", "put(0, 9, 4)", "put(0, 12, 5)", "put(0, 15, 6)",
            "spitters(0, 0, 6)", "put(0, 1, 5)", "put(0, 2, 3)", "put(0, 3, 9)", "row(1, 1, 60)", "row(2, 2, 60)", "row(3, 2, 2)",
            "mend(0, 11, 9)", "mend(0, 9, 30)", "mend(0, 10, 20)", "mend(5, 3, 12)", "mend(4, 3, 1)", "undo()", "spit(5, 8, 80)",
            "body(0)", "keep(4, 0)", "act(0, 0, 1)"},
        {"spitter(1, 0)", "spitter(9, 9)", "feed(97)", "feed(62)", "feed(53)", "feed(63)", "feed(112)", "feed(42)", "feed(97)", "feed(59)",
            "feed(40)", "feed(122)", "feed(45)", "feed(52)", "feed(41)", "feed(42)", "feed(116)", "law()", "row(0, 0, 2)",
            "put(0, 0, 1)", "row(1, 1, 1)", "mend(0, 9, 40)", "mend(0, 9, 50)", "undo()", "undo()", "redo()", "image()", "body(6)",
            "body(3)", "keep(5, 1)", "row(2, 0, 60)"}};

    private static StonesOver x;
    private static Model m;
    private static int calls;

    public static void main(String[] args) {
        for (String[] lane : LANES) {
            spitters(lane);
            thought(lane);
            matches(lane);
            marks(lane);
            deeds(lane);
            shelves(lane);
        }
        Due.close("GridTest");
    }

    private static void spitters(String[] lane) {
        grid(lane, "spitter", new long[] {LEAST, -1, 0, 1, 9, 10, MOST}, new long[] {LEAST, -1, 0, 9, 10, MOST});
        grid(lane, "spitters", SHELVES, new long[] {LEAST, -1, 0, 1, 3, 15, 16, 57, 58, 60, MOST}, new long[] {LEAST, -1, 0, 1, 6, 7, MOST});
        long[] whats = {LEAST, -1, 0, 1, 2, 3, 4, 5, 6, 7, 8, 9, 10, 11, 12, 13, MOST};
        long[] numbers = {LEAST, -1, 0, 1, 2, 5, 6, 8, 9, MOST};
        grid(lane, "mend", numbers, whats, new long[] {LEAST, -10, -9, -2, -1, 0, 1, 2, 9, 10, 12, 13, 20, 21, 999, 1000, MOST});
        grid(lane, "of", numbers, whats);
        grid(lane, "feed", new long[] {LEAST, -1, 0, 40, 97, 255, 256, MOST});
        grid(lane, "law");
    }

    private static void thought(String[] lane) {
        long[] hows = {LEAST, -1, 0, 1, 2, 9, 10, 40, 41, 80, 81, 82, 90, MOST};
        grid(lane, "tries", SPITTERS, SKS, hows, new long[] {LEAST, -1, 0, 1, 2, 3, MOST});
        grid(lane, "angle", SPITTERS, SKS, new long[] {LEAST, -1, 0, 1, 2, 3, MOST});
        grid(lane, "order", SPITTERS, new long[] {LEAST, -1, 0, 1, 2, 10, 11, 70, 71, 1270, 1271, 2550, 5110, 5111, 5112, 5120, MOST},
                new long[] {LEAST, -1, 0, 99, 100, MOST}, new long[] {LEAST, -2, -1, 0, 1, 2, 3, 6, 7, 8, MOST});
        long[] xs = {LEAST, -10, -1, 0, 1, 2, 9, 10, 101, 151, 155, 205, 309, 9990, 9991, 9992, 9999, 10000, MOST};
        grid(lane, "risk", SPITTERS, SKS, xs, new long[] {LEAST, -1, 0, 1, 2, MOST});
        grid(lane, "risks", SPITTERS, SKS, xs, new long[] {LEAST, -1, 0, 1, 2, 3, MOST});
        grid(lane, "practice", SPITTERS, SKS, new long[] {LEAST, -1, 0, 1, 9, 18, 30, 999, 1000, MOST}, new long[] {LEAST, -1, 0, 1, 2, MOST});
    }

    private static void matches(String[] lane) {
        grid(lane, "match", SHELVES, NRS, new long[] {LEAST, -1, 0, 1, 2, 3, 6, MOST});
        grid(lane, "winner", SHELVES, NRS);
        grid(lane, "last", SHELVES, NRS, new long[] {LEAST, -1, 0, 1, 2, 3, MOST});
        grid(lane, "place", SHELVES, NRS, SPITTERS);
        grid(lane, "handicap", SHELVES, NRS, SPITTERS);
    }

    private static void marks(String[] lane) {
        grid(lane, "steps", SPITTERS, new long[] {LEAST, -1, 0, 9, 10, 999, 1000, MOST});
        grid(lane, "whose", new long[] {LEAST, -1, 0, 9, 10, 999, 1000, MOST}, new long[] {LEAST, -1, 0, 1, 99, 999, 1000, MOST});
        grid(lane, "judge", SHELVES, SAS);
        grid(lane, "who", SHELVES, new long[] {LEAST, -1, 0, 1, 2, MOST});
        grid(lane, "ahead", SHELVES, SAS);
        grid(lane, "drawn", SPITTERS, SKS, new long[] {LEAST, -1, 0, 5, MOST},
                new long[] {LEAST, -1, 0, 99, 100, 101, 102, 110, 111, 112, 120, 200, 9900, 9911, 9912, 10000, MOST});
    }

    private static void deeds(String[] lane) {
        grid(lane, "spit", SPITTERS, new long[] {LEAST, -1, 0, 1, 8, 9, MOST}, new long[] {LEAST, -1, 0, 1, 2, 9, 10, 41, 80, 81, 82, 90, MOST});
        grid(lane, "led", SPITTERS, new long[] {LEAST, -1, 0, 1, 2, 3, 4, 5, 6, MOST});
        for (String call : new String[] {"rest", "image", "back", "undo", "redo"}) {
            grid(lane, call);
        }
    }

    private static void shelves(String[] lane) {
        long[] kinds = {LEAST, -1, 0, 1, 2, 3, 4, 5, 6, 7, 8, MOST};
        grid(lane, "body", kinds);
        grid(lane, "act", new long[] {LEAST, -1, 0, 1, 2, 3, 50, MOST}, new long[] {LEAST, -1, 0, 1, 2, 3, 4, MOST}, new long[] {LEAST, -1, 0, 7, MOST});
        grid(lane, "trace", new long[] {LEAST, -1, 0, 1, 13, 14, 23, 24, MOST});
        grid(lane, "keep", SHELVES, new long[] {LEAST, -2, -1, 0, 1, 2, 3, 50, MOST});
        grid(lane, "row", SHELVES, new long[] {LEAST, -1, 0, 1, 2, 3, 4, 5, MOST}, new long[] {LEAST, -1, 0, 1, 60, 61, MOST});
        grid(lane, "put", SHELVES, PLACES, new long[] {Long.MIN_VALUE, -129, -1, 0, 1, 128, 65536, 4294967296L, Long.MAX_VALUE});
        grid(lane, "element", SHELVES, PLACES);
        grid(lane, "shift", SHELVES, PLACES, SHELVES, PLACES, new long[] {LEAST, -1, 0, 1, 2, 60, 61, MOST});
        grid(lane, "taken", SHELVES, kinds);
        grid(lane, "count", new long[] {LEAST, -1, 0, 1, 2, 3, 4, 5, MOST});
    }

    /** A call with every combination of these arguments, on a lane that is made anew ahead of its 512th call. */
    private static void grid(String[] lane, String name, long[]... values) {
        Method due = methodOfModel(name, values.length);
        long combinations = 1;
        for (long[] each : values) {
            combinations *= each.length;
        }
        begin(lane);
        long[] args = new long[values.length];
        for (long which = 0; which < combinations; which++) {
            long left = which;
            for (int i = 0; i < args.length; i++) {
                args[i] = values[i][(int) (left % values[i].length)];
                left /= values[i].length;
            }
            if (calls >= CALLS) {
                begin(lane);
            }
            calls++;
            Due.is("lane " + lane.length + ", " + Calls.told(name, args), Calls.ask(x, name, args), ask(due, args));
        }
    }

    private static void begin(String[] lane) {
        x = new StonesOver();
        m = new Model();
        calls = lane.length;
        for (String call : lane) {
            int open = call.indexOf('(');
            String[] told = call.substring(open + 1, call.length() - 1).split(", ");
            long[] args = new long[told[0].isEmpty() ? 0 : told.length];
            for (int i = 0; i < args.length; i++) {
                args[i] = Long.parseLong(told[i]);
            }
            String name = call.substring(0, open);
            Due.is(call, Calls.ask(x, name, args), ask(methodOfModel(name, args.length), args));
        }
    }

    /** The Model's method with the parameters of the class's own. */
    private static Method methodOfModel(String name, int parameters) {
        for (Method method : StonesOver.class.getMethods()) {
            if (method.getName().equals(name) && method.getParameterCount() == parameters) {
                try {
                    return Model.class.getDeclaredMethod(name, method.getParameterTypes());
                } catch (NoSuchMethodException e) {
                    throw new IllegalStateException("the Model lacks " + name, e);
                }
            }
        }
        throw new IllegalStateException("the class lacks " + name);
    }

    private static long ask(Method method, long[] args) {
        Object[] given = new Object[args.length];
        for (int i = 0; i < args.length; i++) {
            boolean isLong = method.getParameterTypes()[i] == long.class;
            given[i] = isLong ? (Object) args[i] : (Object) (int) args[i];
        }
        try {
            return ((Number) method.invoke(m, given)).longValue();
        } catch (IllegalAccessException | InvocationTargetException e) {
            throw new IllegalStateException(Calls.told(method.getName(), args), e);
        }
    }
}
