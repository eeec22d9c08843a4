/** Promises 35 to 41: what shelves hold, and how many there are. */
public final class ShelvesTest {
    private static final long MIN = Long.MIN_VALUE;

    public static void main(String[] args) {
        keepATry();
        rowsOfSorts();
        putKeepsTheLowestBits();
        elementsAreRead();
        shiftBetweenRows();
        shiftWithinARow();
        shiftRefuses();
        takenForAKind();
        counts();
        Due.close("ShelvesTest");
    }

    private static void keepATry() {
        StonesOver x = new StonesOver();
        Due.is("no such body", x.keep(0, 0), -1);
        x.body(3);
        Due.is("keep", x.keep(5, 0), 1);
        Due.is("taken", x.taken(5, 3), 3);
        Due.is("no such body", x.keep(5, 1), -1);
        Due.is("no such body", x.keep(5, -2), -1);
        Due.is("no such shelf", x.keep(6, 0), -1);
        Due.is("no such shelf", x.keep(-1, -1), -1);
        Due.is("as it was", x.taken(5, 3), 3);
        Due.is("nothing", x.keep(5, -1), 1);
        Due.is("nothing there", x.taken(5, 3), -11);
        Due.row(x, 5, 2, 8);
        Due.is("a try for a row", x.keep(5, 0), 1);
        Due.is("no row any more", x.element(5, 0), MIN);
        Due.row(x, 5, 2, 8);
        Due.is("nothing for a row", x.keep(5, -1), 1);
        Due.is("no row any more", x.put(5, 0, 1), -11);
    }

    private static void rowsOfSorts() {
        StonesOver x = new StonesOver();
        for (int sort = 0; sort <= 4; sort++) {
            Due.is("row(1, " + sort + ", 60)", x.row(1, sort, 60), 1);
            Due.is("all 0", x.element(1, 59), 0);
            Due.is("put", x.put(1, 59, 1), 1);
            Due.is("element", x.element(1, 59), 1);
            Due.is("no sixty-first", x.put(1, 60, 1), -13);
        }
        Due.is("anew", x.row(1, 4, 60), 1);
        Due.is("all 0", x.element(1, 59), 0);
        Due.is("none", x.row(1, 0, 0), 1);
        Due.is("no place", x.put(1, 0, 1), -13);
        Due.is("longer again", x.row(1, 0, 60), 1);
        Due.is("all 0", x.element(1, 59), 0);
        Due.is("row(0, 5, 1)", x.row(0, 5, 1), -1);
        Due.is("row(0, -1, 1)", x.row(0, -1, 1), -1);
        Due.is("row(0, 0, 61)", x.row(0, 0, 61), -1);
        Due.is("row(6, 0, 1)", x.row(6, 0, 1), -1);
        Due.is("row(-1, 0, 1)", x.row(-1, 0, 1), -1);
        Due.is("row(0, 0, -1)", x.row(0, 0, -1), -14);
        Due.is("row(0, 0, least)", x.row(0, 0, Integer.MIN_VALUE), -14);
        Due.is("row(0, 5, -1)", x.row(0, 5, -1), -1);
        Due.is("row(6, 0, -1)", x.row(6, 0, -1), -1);
        Due.is("nothing there", x.put(0, 0, 1), -11);
        Due.is("the refused row", x.row(1, 0, -1), -14);
        Due.is("as it was", x.put(1, 59, 1), 1);
    }

    private static void keeps(int sort, long v, long want) {
        StonesOver x = new StonesOver();
        x.row(0, sort, 1);
        Due.is("put " + v + " into sort " + sort, x.put(0, 0, v), 1);
        Due.is("element of " + v + " in sort " + sort, x.element(0, 0), want);
    }

    private static void putKeepsTheLowestBits() {
        keeps(0, 127, 127);
        keeps(0, 128, -128);
        keeps(0, 256, 0);
        keeps(0, -129, 127);
        keeps(1, 32767, 32767);
        keeps(1, 32768, -32768);
        keeps(1, 65537, 1);
        keeps(2, 2147483648L, -2147483648L);
        keeps(2, 4294967297L, 1);
        keeps(3, Long.MAX_VALUE, Long.MAX_VALUE);
        keeps(3, MIN, MIN);
        keeps(4, 0, 0);
        keeps(4, 1, 1);
        keeps(4, -7, 1);
        keeps(4, 256, 1);
        keeps(4, MIN, 1);
        StonesOver x = new StonesOver();
        Due.is("no such shelf", x.put(6, 0, 1), -1);
        Due.is("no such shelf", x.put(-1, 0, 1), -1);
        Due.is("nothing there", x.put(0, -1, 1), -11);
        x.body(0);
        x.keep(0, 0);
        Due.is("a try", x.put(0, -1, 1), -12);
        x.row(0, 0, 2);
        Due.is("no such place", x.put(0, -1, 1), -13);
        Due.is("no such place", x.put(0, 2, 1), -13);
        Due.is("no such place", x.put(0, Integer.MAX_VALUE, 1), -13);
    }

    private static void elementsAreRead() {
        StonesOver x = new StonesOver();
        Due.is("nothing there", x.element(0, 0), MIN);
        Due.row(x, 0, 3, 5, 6);
        Due.is("element(0, 0)", x.element(0, 0), 5);
        Due.is("element(0, 1)", x.element(0, 1), 6);
        Due.is("element(0, 2)", x.element(0, 2), MIN);
        Due.is("element(0, -1)", x.element(0, -1), MIN);
        Due.is("element(6, 0)", x.element(6, 0), MIN);
        Due.is("element(-1, 0)", x.element(-1, 0), MIN);
        x.body(0);
        x.keep(0, 0);
        Due.is("a try", x.element(0, 0), MIN);
    }

    private static void elementsAre(StonesOver x, int shelf, long... want) {
        for (int i = 0; i < want.length; i++) {
            Due.is("element(" + shelf + ", " + i + ")", x.element(shelf, i), want[i]);
        }
    }

    private static void shiftBetweenRows() {
        StonesOver x = new StonesOver();
        Due.row(x, 0, 1, 1, 2, 3, 4);
        Due.row(x, 1, 1, 10, 20, 30);
        Due.is("shift", x.shift(0, 2, 1, 0, 2), 2);
        elementsAre(x, 1, 3, 4, 30);
        elementsAre(x, 0, 1, 2, 3, 4);
        Due.is("none", x.shift(0, 4, 1, 3, 0), 0);
        elementsAre(x, 1, 3, 4, 30);
        x.put(0, 2, 7);
        elementsAre(x, 1, 3, 4, 30);
    }

    private static void shiftWithinARow() {
        StonesOver x = new StonesOver();
        Due.row(x, 0, 3, 1, 2, 3, 4, 5);
        Due.is("up", x.shift(0, 0, 0, 1, 4), 4);
        elementsAre(x, 0, 1, 1, 2, 3, 4);
        Due.is("down", x.shift(0, 1, 0, 0, 4), 4);
        elementsAre(x, 0, 1, 2, 3, 4, 4);
    }

    private static void shiftRefuses() {
        StonesOver x = new StonesOver();
        Due.row(x, 0, 1, 1, 2, 3);
        Due.row(x, 1, 1, 9, 9);
        Due.row(x, 2, 2, 9, 9);
        x.body(0);
        x.keep(3, 0);
        x.keep(4, 0);
        Due.is("no such shelf", x.shift(6, 0, 5, 0, 1), -1);
        Due.is("no such shelf", x.shift(5, 0, -1, 0, 1), -1);
        Due.is("nothing there", x.shift(5, 0, 0, 0, 1), -11);
        Due.is("nothing there", x.shift(3, 0, 5, 0, 1), -11);
        Due.is("unlike sorts", x.shift(0, 0, 2, 0, 9), -12);
        Due.is("a try", x.shift(3, 0, 0, 0, 1), -12);
        Due.is("a try", x.shift(0, 0, 3, 0, 1), -12);
        Due.is("tries", x.shift(3, 0, 4, 0, 0), -12);
        Due.is("i below 0", x.shift(0, -1, 1, 0, 1), -13);
        Due.is("j below 0", x.shift(0, 0, 1, -1, 1), -13);
        Due.is("n below 0", x.shift(0, 0, 1, 0, -1), -13);
        Due.is("beyond the first", x.shift(0, 2, 1, 0, 2), -13);
        Due.is("beyond the other", x.shift(0, 0, 1, 1, 2), -13);
        Due.is("none, from beyond", x.shift(0, 4, 1, 0, 0), -13);
        Due.is("none, to beyond", x.shift(0, 0, 1, 3, 0), -13);
        Due.is("far", x.shift(0, 1, 1, 1, Integer.MAX_VALUE), -13);
        Due.is("far", x.shift(0, Integer.MAX_VALUE, 1, 0, 1), -13);
        Due.is("far", x.shift(0, 0, 1, Integer.MIN_VALUE, 1), -13);
        elementsAre(x, 1, 9, 9);
    }

    private static void takenForAKind() {
        StonesOver x = new StonesOver();
        String[] under = {"0", "01", "02", "023", "014", "0235", "06", "0147"};
        for (int kind = 0; kind < 8; kind++) {
            x.body(kind);
            x.keep(2, kind);
            for (int k = 0; k < 8; k++) {
                int want = under[kind].indexOf('0' + k) >= 0 ? kind : -12;
                Due.is("a " + kind + " taken for a " + k, x.taken(2, k), want);
            }
        }
        Due.is("no such kind", x.taken(2, 8), -1);
        Due.is("no such kind", x.taken(2, -1), -1);
        Due.is("no such shelf", x.taken(6, 0), -1);
        Due.is("no such shelf", x.taken(-1, 0), -1);
        Due.is("nothing there", x.taken(0, 0), -11);
        x.row(0, 0, 1);
        Due.is("a row", x.taken(0, 0), -12);
        Due.is("a row, no such kind", x.taken(0, 8), -1);
    }

    private static void counts() {
        StonesOver x = new StonesOver();
        x.spitter(1, 1);
        x.spitter(1, 1);
        x.spitter(1, 1);
        x.feed(1);
        x.feed(1);
        x.mend(0, 7, 1);
        for (int i = 0; i < 4; i++) {
            x.body(7);
        }
        x.act(3, 3, 0);
        Due.is("SPITTERS", x.count(0), 3);
        Due.is("bytes", x.count(1), 2);
        Due.is("changes", x.count(2), 1);
        Due.is("BODIES", x.count(3), 4);
        Due.is("bodies that ran", x.count(4), 14);
        Due.is("count(5)", x.count(5), -1);
        Due.is("count(-1)", x.count(-1), -1);
        x.undo();
        Due.is("changes undone", x.count(2), 0);
    }
}
