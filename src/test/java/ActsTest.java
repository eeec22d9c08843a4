/** Promises 32 to 34: bodies, acts and the trace of their bodies. */
public final class ActsTest {
    public static void main(String[] args) {
        bodiesAreKept();
        everyKindActs();
        numbersAreTold();
        intsWrap();
        noSuchAct();
        Due.close("ActsTest");
    }

    private static void bodiesAreKept() {
        StonesOver x = new StonesOver();
        Due.is("body(8)", x.body(8), -1);
        Due.is("body(-1)", x.body(-1), -1);
        for (int i = 0; i < 50; i++) {
            Due.is("body(" + i % 8 + ")", x.body(i % 8), i);
        }
        Due.is("the 51st", x.body(0), -3);
        Due.is("the 51st, no kind", x.body(8), -1);
        Due.is("count(3)", x.count(3), 50);
    }

    private static void acts(StonesOver x, int body, int act, int v, int want, int... trace) {
        String call = "act(" + body + ", " + act + ", " + v + ")";
        Due.is(call, x.act(body, act, v), want);
        Due.is(call + " count(4)", x.count(4), trace.length);
        for (int i = 0; i < trace.length; i++) {
            Due.is(call + " trace(" + i + ")", x.trace(i), trace[i]);
        }
        Due.is(call + " trace beyond", x.trace(trace.length), -1);
        Due.is(call + " trace ahead", x.trace(-1), -1);
    }

    private static void everyKindActs() {
        StonesOver x = new StonesOver();
        for (int kind = 0; kind < 8; kind++) {
            x.body(kind);
        }
        // TRY 0
        acts(x, 0, 0, 7, 7, 1);
        acts(x, 0, 1, 7, 14, 10, 1);
        acts(x, 0, 2, 7, 7, 11);
        acts(x, 0, 3, 7, 14 - 1, 2, 10, 1, 11);
        // WET 1: spits x + 1 + 3
        acts(x, 1, 0, 7, 11, 20, 1);
        acts(x, 1, 1, 7, 22, 10, 20, 1);
        acts(x, 1, 2, 7, 6, 11);
        acts(x, 1, 3, 7, 22 - 0, 2, 10, 20, 1, 11);
        // ROLLING 2: lands -2 (x + 2)
        acts(x, 2, 0, 7, 9, 1);
        acts(x, 2, 1, 7, -18, 30, 10, 1);
        acts(x, 2, 2, 7, 5, 11);
        acts(x, 2, 3, 7, -18 - 3, 2, 30, 10, 1, 11);
        // GRASS 3: lands -2 (x + 1 + 3), rolls 3 (x ^ 3)
        acts(x, 3, 0, 7, 10, 1);
        acts(x, 3, 1, 7, -22, 41, 30, 10, 1);
        acts(x, 3, 2, 7, 12, 40, 11);
        acts(x, 3, 3, 7, -22 - 6, 2, 41, 30, 10, 1, 40, 11);
        // RUN 4: spits x + 4 + 3, rolls (x ^ 4) - 9
        acts(x, 4, 0, 7, 14, 20, 1);
        acts(x, 4, 1, 7, 28, 10, 20, 1);
        acts(x, 4, 2, 7, 3 - 9, 50, 11, 20, 1);
        acts(x, 4, 3, 7, 28 - (5 - 9), 2, 10, 20, 1, 50, 11, 20, 1);
        // BARREL 5: lands -2 (x + 1 + 5), rolls 3 (x ^ 5), tells ^ 5
        acts(x, 5, 0, 7, 12, 1);
        acts(x, 5, 1, 7, -26, 41, 30, 10, 1);
        acts(x, 5, 2, 7, 6, 40, 11);
        acts(x, 5, 3, 7, (-26 - 12) ^ 5, 60, 2, 41, 30, 10, 1, 40, 11);
        // SMALL 6: spits 2 (x + 6)
        acts(x, 6, 0, 7, 26, 70, 1);
        acts(x, 6, 1, 7, 52, 10, 70, 1);
        acts(x, 6, 2, 7, 1, 11);
        acts(x, 6, 3, 7, 52 - 7, 2, 10, 70, 1, 11);
        // SLIP 7: spits x + 7 + 3, rolls (x ^ 7) - 12, lands 2 spits(x) + rolls(2), tells - 1
        acts(x, 7, 0, 7, 17, 20, 1);
        acts(x, 7, 1, 7, 34 + (5 - 12), 80, 10, 20, 1, 50, 11, 20, 1);
        acts(x, 7, 2, 7, -12, 50, 11, 20, 1);
        acts(x, 7, 3, 7, 27 - (6 - 12) - 1, 81, 2, 80, 10, 20, 1, 50, 11, 20, 1, 50, 11, 20, 1);
    }

    private static void numbersAreTold() {
        StonesOver x = new StonesOver();
        for (int i = 0; i < 50; i++) {
            x.body(0);
        }
        acts(x, 49, 0, 7, 56, 1);
        acts(x, 49, 2, -1, -1 ^ 49, 11);
    }

    private static void intsWrap() {
        StonesOver x = new StonesOver();
        x.body(6);
        x.body(2);
        acts(x, 0, 0, Integer.MIN_VALUE, 0, 70, 1);
        acts(x, 0, 1, 0x60000000, Integer.MIN_VALUE, 10, 70, 1);
        acts(x, 1, 1, Integer.MAX_VALUE, 0, 30, 10, 1);
        acts(x, 1, 1, 0x40000000 - 1, Integer.MIN_VALUE, 30, 10, 1);
        acts(x, 1, 0, Integer.MAX_VALUE, Integer.MIN_VALUE, 1);
    }

    private static void noSuchAct() {
        StonesOver x = new StonesOver();
        Due.is("no trace yet", x.trace(0), -1);
        acts(x, 0, 0, 7, 0);
        x.body(0);
        acts(x, 0, 3, 7, 13, 2, 10, 1, 11);
        acts(x, 0, 4, 7, 0);
        acts(x, 0, 0, 7, 7, 1);
        acts(x, 0, -1, 7, 0);
        acts(x, 0, 0, 7, 7, 1);
        acts(x, 1, 0, 7, 0);
        acts(x, 0, 0, 7, 7, 1);
        acts(x, -1, 0, 7, 0);
    }
}
