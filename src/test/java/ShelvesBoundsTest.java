/** The sentences of the document that bound bodies, acts and shelves, one by one. */
public final class ShelvesBoundsTest {
    private static final int LEAST = Integer.MIN_VALUE, MOST = Integer.MAX_VALUE;
    private static final long NONE = Long.MIN_VALUE;

    public static void main(String[] args) {
        ask();
        Due.close("ShelvesBoundsTest");
    }

    static void ask() {
        bodies();
        intsThatWrap();
        theTrace();
        shelves();
        rows();
        lowestBits();
        nothingThere();
        anotherKind();
        placesNotThere();
        sizesBelowNought();
        spittersFromARow();
        shifted();
    }

    private static void bodies() {
        Due.sentence("5 TRIES' ways are kept by call as BODIES 0 .. 49, of KINDS: 0 TRY;");
        StonesOver x = new StonesOver();
        for (int i = 0; i < 50; i++) {
            Due.is("keep " + i + " ahead of it", x.keep(0, i), -1);
            Due.is("body", x.body(i % 8), i);
            Due.is("keep " + i, x.keep(0, i), 1);
            Due.is("taken " + i, x.taken(0, 0), i % 8);
        }
        Due.is("the 51st", x.body(0), -3);
        Due.is("keep 50", x.keep(0, 50), -1);
        Due.is("keep -2", x.keep(0, -2), -1);
        Due.is("act of 50", x.act(50, 0, 1), 0);
        Due.is("act of 49", x.act(49, 0, 1), 1 + 49 + 3);
        Due.is("act of 0", x.act(0, 0, 1), 1);
        int[] kinds = {-1, 8, LEAST, MOST};
        StonesOver other = new StonesOver();
        for (int kind : kinds) {
            Due.is("kind " + kind, other.body(kind), -1);
            Due.is("kind " + kind + " of the 51st", x.body(kind), -1);
        }
        Due.is("none kept", other.count(3), 0);
        Due.is("50 kept", x.count(3), 50);
    }

    private static void intsThatWrap() {
        Due.sentence("ACTS with x (an int that wraps): 0 spits, 1 lands, 2 rolls, 3 tells; n its number");
        StonesOver x = new StonesOver();
        for (int kind = 0; kind < 8; kind++) {
            x.body(kind);
        }
        int[] xs = {LEAST, LEAST + 1, -1, 0, 1, MOST - 1, MOST, 0x40000000, 0x60000000, -0x40000000};
        for (int v : xs) {
            Due.is("TRY spits " + v, x.act(0, 0, v), v);
            Due.is("TRY lands " + v, x.act(0, 1, v), v * 2);
            Due.is("TRY rolls " + v, x.act(0, 2, v), v);
            Due.is("TRY tells " + v, x.act(0, 3, v), v * 2 - 1);
            Due.is("WET spits " + v, x.act(1, 0, v), v + 4);
            Due.is("WET lands " + v, x.act(1, 1, v), (v + 4) * 2);
            Due.is("ROLLING lands " + v, x.act(2, 1, v), (v + 2) * -2);
            Due.is("ROLLING tells " + v, x.act(2, 3, v), (v + 2) * -2 - (1 ^ 2));
            Due.is("GRASS lands " + v, x.act(3, 1, v), (v + 4) * -2);
            Due.is("GRASS rolls " + v, x.act(3, 2, v), (v ^ 3) * 3);
            Due.is("RUN rolls " + v, x.act(4, 2, v), (v ^ 4) - 9);
            Due.is("BARREL rolls " + v, x.act(5, 2, v), (v ^ 5) * 3);
            Due.is("BARREL tells " + v, x.act(5, 3, v), (v + 6) * -2 - (1 ^ 5) * 3 ^ 5);
            Due.is("SMALL spits " + v, x.act(6, 0, v), (v + 6) * 2);
            Due.is("SMALL lands " + v, x.act(6, 1, v), (v + 6) * 4);
            Due.is("SMALL rolls " + v, x.act(6, 2, v), v ^ 6);
            Due.is("SMALL tells " + v, x.act(6, 3, v), (v + 6) * 4 - 7);
            Due.is("SLIP lands " + v, x.act(7, 1, v), (v + 10) * 2 + (2 ^ 7) - 12);
            Due.is("SLIP rolls " + v, x.act(7, 2, v), (v ^ 7) - 12);
            Due.is("SLIP tells " + v, x.act(7, 3, v), (v + 10) * 2 + (2 ^ 7) - 12 - ((1 ^ 7) - 12) - 1);
        }
        Due.sentence("An ACT (0 .. 3) of a TRY with x. 0, and no TRACE then: no such TRY, ACT");
        int[][] none = {{0, -1}, {0, 4}, {0, LEAST}, {0, MOST}, {-1, 0}, {8, 0}, {LEAST, 3}, {MOST, 3}, {-1, -1}};
        for (int[] each : none) {
            Due.is("an act ahead of it", x.act(7, 3, 5), (5 + 10) * 2 + 5 - 12 - (6 - 12) - 1);
            Due.is("bodies that ran", x.count(4), 14);
            Due.is("act(" + each[0] + ", " + each[1] + ", 5)", x.act(each[0], each[1], 5), 0);
            Due.is("bodies that ran", x.count(4), 0);
            Due.is("no trace then", x.trace(0), -1);
        }
        StonesOver fresh = new StonesOver();
        Due.is("none is kept", fresh.act(0, 0, 5), 0);
    }

    private static void theTrace() {
        Due.sentence("THE TRACE: numbers of the bodies that ran in the latest act(), as they began; the first 24 are kept");
        StonesOver x = new StonesOver();
        Due.is("no act yet", x.trace(0), -1);
        Due.is("none ran yet", x.count(4), 0);
        x.body(7);
        x.body(0);
        x.act(0, 3, 1);
        int[] longest = {81, 2, 80, 10, 20, 1, 50, 11, 20, 1, 50, 11, 20, 1};
        Due.is("all that ran", x.count(4), longest.length);
        for (int i = 0; i < longest.length; i++) {
            Due.is("trace(" + i + ")", x.trace(i), longest[i]);
        }
        int[] beyond = {-1, longest.length, 23, 24, LEAST, MOST};
        for (int i : beyond) {
            Due.is("trace(" + i + ")", x.trace(i), -1);
        }
        x.act(1, 2, 1);
        Due.is("the latest act only", x.count(4), 1);
        Due.is("trace(0)", x.trace(0), 11);
        Due.is("trace(1)", x.trace(1), -1);
    }

    private static void shelves() {
        Due.sentence("SHELVES 0 .. 5 each hold nothing (at first), a TRY (a BODY), or a ROW");
        StonesOver x = new StonesOver();
        x.body(2);
        for (int shelf = 0; shelf < 6; shelf++) {
            Due.is("nothing at first on " + shelf, x.taken(shelf, 0), -11);
            Due.is("a try on " + shelf, x.keep(shelf, 0), 1);
            Due.is("a try on " + shelf, x.taken(shelf, 0), 2);
            Due.is("a row on " + shelf, x.row(shelf, 2, shelf + 1), 1);
            Due.is("a row on " + shelf, x.put(shelf, shelf, 70 + shelf), 1);
            Due.is("a row on " + shelf, x.taken(shelf, 0), -12);
        }
        for (int shelf = 0; shelf < 6; shelf++) {
            Due.is("each holds its own", x.element(shelf, shelf), 70 + shelf);
            Due.is("nothing again on " + shelf, x.keep(shelf, -1), 1);
            Due.is("nothing again on " + shelf, x.taken(shelf, 0), -11);
        }
        int[] none = {-1, 6, 7, LEAST, MOST};
        for (int shelf : none) {
            Due.is("keep on " + shelf, x.keep(shelf, 0), -1);
            Due.is("keep nothing on " + shelf, x.keep(shelf, -1), -1);
            Due.is("row on " + shelf, x.row(shelf, 0, 1), -1);
            Due.is("put on " + shelf, x.put(shelf, 0, 1), -1);
            Due.is("element on " + shelf, x.element(shelf, 0), NONE);
            Due.is("shift from " + shelf, x.shift(shelf, 0, 0, 0, 0), -1);
            Due.is("shift to " + shelf, x.shift(0, 0, shelf, 0, 0), -1);
            Due.is("taken from " + shelf, x.taken(shelf, 0), -1);
            Due.is("spitters on " + shelf, x.spitters(shelf, 0, 1), -1);
            Due.is("match on " + shelf, x.match(shelf, 10, 0), -1);
            Due.is("winner on " + shelf, x.winner(shelf, 10), -1);
            Due.is("last on " + shelf, x.last(shelf, 10, 0), NONE);
            Due.is("judge on " + shelf, x.judge(shelf, 0), -1);
            Due.is("who on " + shelf, x.who(shelf, 0), -1);
            Due.is("ahead on " + shelf, x.ahead(shelf, 0), -1);
        }
    }

    private static void rows() {
        Due.sentence("of 0 bytes, 1 shorts, 2 ints, 3 longs, 4 booleans, of 0 .. 60 elements, 0 at first (false)");
        StonesOver x = new StonesOver();
        for (int sort = 0; sort <= 4; sort++) {
            Due.is("60 of sort " + sort, x.row(0, sort, 60), 1);
            Due.is("the first", x.element(0, 0), 0);
            Due.is("the last", x.element(0, 59), 0);
            Due.is("one more", x.element(0, 60), NONE);
            x.put(0, 0, 1);
            x.put(0, 59, 1);
            Due.is("1 of sort " + sort, x.row(0, sort, 1), 1);
            Due.is("0 once more", x.element(0, 0), 0);
            Due.is("one more", x.element(0, 1), NONE);
            Due.is("60 of sort " + sort, x.row(0, sort, 60), 1);
            Due.is("0 once more", x.element(0, 59), 0);
            Due.is("0 of sort " + sort, x.row(0, sort, 0), 1);
            Due.is("one more", x.element(0, 0), NONE);
            Due.is("61 of sort " + sort, x.row(1, sort, 61), -1);
            Due.is("far more of sort " + sort, x.row(1, sort, MOST), -1);
            Due.is("none came", x.element(1, 0), NONE);
        }
        int[] sorts = {-1, 5, LEAST, MOST};
        for (int sort : sorts) {
            Due.is("sort " + sort, x.row(1, sort, 1), -1);
            Due.is("none of sort " + sort, x.row(1, sort, 0), -1);
        }
        Due.is("nothing there", x.put(1, 0, 1), -11);
    }

    private static void keeps(int sort, long v, long want) {
        StonesOver x = new StonesOver();
        x.row(5, sort, 60);
        Due.is("put " + v + " in sort " + sort, x.put(5, 59, v), 1);
        Due.is("element of " + v + " in sort " + sort, x.element(5, 59), want);
        Due.is("the one before in sort " + sort, x.element(5, 58), 0);
    }

    private static void lowestBits() {
        Due.sentence("what is put in keeps its lowest bits (a boolean: whether it is not 0; 1 or 0)");
        long[] values = {0, 1, -1, 127, 128, 129, 255, 256, 257, -127, -128, -129, -256, 32767, 32768, 65535, 65536, -32768,
            -32769, 2147483647L, 2147483648L, 4294967295L, 4294967296L, -2147483648L, -2147483649L, Long.MAX_VALUE, NONE};
        for (long v : values) {
            keeps(0, v, (v & 255) > 127 ? (v & 255) - 256 : v & 255);
            keeps(1, v, (v & 65535) > 32767 ? (v & 65535) - 65536 : v & 65535);
            keeps(2, v, (v & 4294967295L) > 2147483647L ? (v & 4294967295L) - 4294967296L : v & 4294967295L);
            keeps(3, v, v);
            keeps(4, v, v == 0 ? 0 : 1);
        }
    }

    private static void nothingThere() {
        Due.sentence("-11 nothing is there where something is wanted");
        StonesOver x = Due.lane(1, "");
        Due.row(x, 1, 0, 0);
        Due.is("put", x.put(0, 0, 1), -11);
        Due.is("element", x.element(0, 0), NONE);
        Due.is("shift from", x.shift(0, 0, 1, 0, 0), -11);
        Due.is("shift to", x.shift(1, 0, 0, 0, 0), -11);
        Due.is("shift from and to", x.shift(0, 0, 0, 0, 0), -11);
        Due.is("taken", x.taken(0, 0), -11);
        Due.is("match", x.match(0, 10, 0), -11);
        Due.is("winner", x.winner(0, 10), -11);
        Due.is("last", x.last(0, 10, 0), NONE);
        Due.is("place", x.place(0, 10, 0), -11);
        Due.is("handicap", x.handicap(0, 10, 0), -11);
        Due.is("judge", x.judge(0, 0), -11);
        Due.is("who", x.who(0, 0), -11);
        Due.is("ahead", x.ahead(0, 0), -11);
        Due.is("spitters", x.spitters(0, 0, 1), 0);
        x.body(0);
        x.keep(2, 0);
        x.keep(2, -1);
        Due.is("no try any more", x.taken(2, 0), -11);
        x.keep(1, -1);
        Due.is("no row any more", x.put(1, 0, 1), -11);
    }

    private static void anotherKind() {
        Due.sentence("-12 it is of another kind");
        StonesOver x = Due.lane(1, "");
        x.body(1);
        x.keep(5, 0);
        for (int sort = 0; sort <= 4; sort++) {
            Due.row(x, sort, sort, 0);
        }
        for (int shelf = 0; shelf < 6; shelf++) {
            Due.is("match on " + shelf, x.match(shelf, 10, 0) == -12 ? 1 : 0, shelf == 0 ? 0 : 1);
            Due.is("winner on " + shelf, x.winner(shelf, 10) == -12 ? 1 : 0, shelf == 0 ? 0 : 1);
            Due.is("last on " + shelf, x.last(shelf, 10, 0) == NONE ? 1 : 0, shelf == 0 ? 0 : 1);
            Due.is("place on " + shelf, x.place(shelf, 10, 0) == -12 ? 1 : 0, shelf == 0 ? 0 : 1);
            Due.is("handicap on " + shelf, x.handicap(shelf, 10, 0) == -12 ? 1 : 0, shelf == 0 ? 0 : 1);
            Due.is("spitters on " + shelf, x.spitters(shelf, 0, 1), shelf == 0 ? 0 : -12);
            Due.is("judge on " + shelf, x.judge(shelf, 0) == -12 ? 1 : 0, shelf == 1 ? 0 : 1);
            Due.is("who on " + shelf, x.who(shelf, 0) == -12 ? 1 : 0, shelf == 1 ? 0 : 1);
            Due.is("ahead on " + shelf, x.ahead(shelf, 0) == -12 ? 1 : 0, shelf == 1 ? 0 : 1);
            Due.is("put on " + shelf, x.put(shelf, 0, 0), shelf == 5 ? -12 : 1);
            Due.is("element on " + shelf, x.element(shelf, 0), shelf == 5 ? NONE : 0);
            Due.is("taken from " + shelf, x.taken(shelf, 0), shelf == 5 ? 1 : -12);
            for (int other = 0; other < 6; other++) {
                Due.is("shift from " + shelf + " to " + other, x.shift(shelf, 0, other, 0, 1),
                        shelf == other && shelf < 5 ? 1 : -12);
            }
        }
        int[] wants = {1, 1, -12, -12, -12, -12, -12, -12};
        for (int k = 0; k < 8; k++) {
            Due.is("a WET taken for " + k, x.taken(5, k), wants[k]);
        }
        int[] none = {-1, 8, LEAST, MOST};
        for (int k : none) {
            Due.is("a WET taken for " + k, x.taken(5, k), -1);
        }
    }

    private static void placesNotThere() {
        Due.sentence("-13 a place that is not there");
        StonesOver x = new StonesOver();
        int[] sizes = {0, 1, 59, 60};
        for (int n : sizes) {
            x.row(0, 3, n);
            x.row(1, 3, 60);
            int[] places = {-1, n, n + 1, 60, 61, LEAST, MOST};
            for (int i : places) {
                Due.is("put at " + i + " of " + n, x.put(0, i, 5), -13);
                Due.is("element " + i + " of " + n, x.element(0, i), NONE);
                Due.is("one from " + i + " of " + n, x.shift(0, i, 1, 0, 1), -13);
                Due.is("one to " + i + " of " + n, x.shift(1, 0, 0, i, 1), -13);
            }
            if (n > 0) {
                Due.is("put at the last of " + n, x.put(0, n - 1, 5), 1);
                Due.is("the last of " + n, x.element(0, n - 1), 5);
                Due.is("from the last of " + n, x.shift(0, n - 1, 1, 59, 1), 1);
                Due.is("to the last of " + n, x.shift(1, 58, 0, n - 1, 1), 1);
                Due.is("put at 0 of " + n, x.put(0, 0, 5), 1);
            }
            Due.is("all of " + n, x.shift(0, 0, 1, 60 - n, n), n);
            Due.is("one more than all of " + n, x.shift(0, 0, 1, 0, n + 1), -13);
            Due.is("none from behind the last of " + n, x.shift(0, n, 1, 0, 0), 0);
            Due.is("none from beyond that of " + n, x.shift(0, n + 1, 1, 0, 0), -13);
            Due.is("none to behind the last of " + n, x.shift(1, 0, 0, n, 0), 0);
            Due.is("none to beyond that of " + n, x.shift(1, 0, 0, n + 1, 0), -13);
        }
        Due.is("n -1", x.shift(0, 0, 1, 0, -1), -13);
        Due.is("n far below", x.shift(0, 0, 1, 0, LEAST), -13);
        Due.is("n far", x.shift(0, 1, 1, 1, MOST), -13);
        Due.is("i far, n 1", x.shift(0, MOST, 1, 0, 1), -13);
        Due.is("j far, n 1", x.shift(0, 0, 1, MOST, 1), -13);
    }

    private static void sizesBelowNought() {
        Due.sentence("-14 a size below 0");
        StonesOver x = new StonesOver();
        Due.row(x, 0, 3, 7);
        int[] sizes = {-1, -2, -60, LEAST};
        for (int n : sizes) {
            for (int sort = 0; sort <= 4; sort++) {
                Due.is("row of " + n, x.row(0, sort, n), -14);
                Due.is("row of " + n, x.row(1, sort, n), -14);
            }
        }
        Due.is("as it was", x.element(0, 0), 7);
        Due.is("as it was", x.put(1, 0, 1), -11);
    }

    private static void came(String call, StonesOver x, int i, int n, int want) {
        int before = x.count(0);
        Due.is(call, x.spitters(0, i, n), want);
        Due.is(call + ", all together", x.count(0), before + want);
    }

    private static void spittersFromARow() {
        Due.sentence("SPITTERS FROM A ROW of bytes, from a place on: by threes MOUTH, SKILL, TIRES: n of them; it ends where the row"
                + " is missing, ends (within a three, too), one is not so, or SPITTERS are FULL: those ahead came");
        came("the row is missing", new StonesOver(), 0, 6, 0);
        StonesOver lost = new StonesOver();
        Due.row(lost, 0, 0, 1, 0, 0, 1, 0, 0);
        came("the row is there", lost, 0, 1, 1);
        lost.keep(0, -1);
        came("the row was there", lost, 0, 6, 0);
        Due.row(lost, 0, 0, 1, 0, 0, 1, 0, 0);
        Due.row(lost, 0, 0, 1, 0, 0);
        came("the row was longer", lost, 0, 6, 1);
        for (int n = 0; n <= 18; n++) {
            StonesOver x = new StonesOver();
            x.row(0, 0, n);
            for (int i = 0; i < n; i++) {
                x.put(0, i, i % 3 == 0 ? 9 : i % 3);
            }
            came("a row of " + n, x, 0, 6, n / 3);
        }
        byThrees();
        notSo();
        full();
    }

    private static void byThrees() {
        StonesOver x = new StonesOver();
        Due.row(x, 0, 0, 0, 1, 0, 0, 9, 9, 9, 5, 4, 3);
        int[] none = {0, 7, -1, LEAST, MOST};
        for (int n : none) {
            Due.is("n " + n, x.spitters(0, 1, n), -1);
        }
        came("one of three", x, 1, 1, 1);
        came("two of three", x, 1, 2, 2);
        came("from the last three on", x, 7, 6, 1);
        int[] beyond = {8, 9, 10, 11, 60, MOST, MOST - 1, -1, -2, -3, LEAST};
        for (int i : beyond) {
            came("from " + i + " on", x, i, 6, 0);
        }
        int[] mouths = {1, 1, 9, 5};
        int[] skills = {0, 0, 9, 4};
        int[] tires = {0, 0, 9, 3};
        for (int i = 0; i < 4; i++) {
            Due.is("MOUTH of " + i, x.of(i, 0), mouths[i]);
            Due.is("SKILL of " + i, x.of(i, 1), skills[i]);
            Due.is("TIRES of " + i, x.of(i, 2), tires[i]);
            Due.is("SLIPS of " + i, x.of(i, 3), 0);
            Due.is("STEP of " + i, x.of(i, 4), 10);
        }
    }

    private static void notSo() {
        int[][] wrong = {{0, 1, 1}, {10, 1, 1}, {-1, 1, 1}, {1, -1, 1}, {1, 10, 1}, {1, 1, -1}, {1, 1, 10}, {-128, 1, 1}, {127, 1, 1}};
        for (int[] three : wrong) {
            for (int at = 0; at < 3; at++) {
                StonesOver x = new StonesOver();
                Due.row(x, 0, 0, 1, 0, 0, 9, 9, 9, 5, 4, 3);
                for (int j = 0; j < 3; j++) {
                    x.put(0, 3 * at + j, three[j]);
                }
                came("the three " + at + " is " + three[0] + ", " + three[1] + ", " + three[2], x, 0, 3, at);
            }
        }
    }

    private static void full() {
        for (int there = 0; there <= 6; there++) {
            StonesOver x = Due.lane(there, "");
            x.row(0, 0, 60);
            for (int i = 0; i < 60; i++) {
                x.put(0, i, 1 + i % 3);
            }
            came("six of twenty, when " + there + " are there", x, 0, 6, 6 - there);
            came("one more", x, 0, 1, 0);
        }
    }

    private static void elementsAre(String call, StonesOver x, int shelf, long... want) {
        for (int i = 0; i < want.length; i++) {
            Due.is(call + ", element " + i, x.element(shelf, i), want[i]);
        }
    }

    private static void shifted() {
        Due.sentence("n elements of a ROW from i on come to another one (or the same) from j on, as they all were before: n");
        for (int sort = 0; sort <= 4; sort++) {
            StonesOver x = new StonesOver();
            Due.row(x, 0, sort, 1, 0, 1, 0, 0);
            Due.row(x, 1, sort, 0, 0, 1);
            Due.is("two of sort " + sort, x.shift(0, 2, 1, 1, 2), 2);
            elementsAre("to", x, 1, 0, 1, 0);
            elementsAre("from", x, 0, 1, 0, 1, 0, 0);
            Due.is("none of sort " + sort, x.shift(0, 0, 1, 0, 0), 0);
            elementsAre("to", x, 1, 0, 1, 0);
        }
        StonesOver x = new StonesOver();
        Due.row(x, 0, 2, 1, 2, 3, 4, 5);
        Due.is("up by one", x.shift(0, 0, 0, 1, 4), 4);
        elementsAre("up by one", x, 0, 1, 1, 2, 3, 4);
        Due.is("down by two", x.shift(0, 2, 0, 0, 3), 3);
        elementsAre("down by two", x, 0, 2, 3, 4, 3, 4);
        Due.is("onto itself", x.shift(0, 0, 0, 0, 5), 5);
        elementsAre("onto itself", x, 0, 2, 3, 4, 3, 4);
    }
}
