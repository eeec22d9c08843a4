/** Promises 1 to 5: a new object, spitters, numbers mended and read. */
public final class SpittersTest {
    public static void main(String[] args) {
        aNewLane();
        spitterByMouthAndSkill();
        spittersFromARow();
        spittersFromARowThatLacksOrEnds();
        spittersFromAPlaceBelowNought();
        mendTellsWhatItWas();
        mendHoldsTheBounds();
        ofReadsEachNumber();
        Due.close("SpittersTest");
    }

    private static void aNewLane() {
        StonesOver x = new StonesOver();
        Due.is("constants", StonesOver.BAD * 1L + StonesOver.NOT * 10L + StonesOver.FULL * 100L
                + StonesOver.STATE * 1000L + StonesOver.VOID, -1 - 20 - 300 - 5000 - 2000000000L);
        for (int what = 0; what <= 4; what++) {
            Due.is("nobody's count " + what, x.count(what), 0);
        }
        long[] lane = {0, 999, 400, 5, -1, 0};
        for (int what = 7; what <= 12; what++) {
            Due.is("of(0, " + what + ")", x.of(0, what), lane[what - 7]);
        }
        for (int stone = 0; stone < 9; stone++) {
            Due.is("of(" + stone + ", 5)", x.of(stone, 5), 5);
            Due.is("of(" + stone + ", 6)", x.of(stone, 6), 0);
        }
        for (int shelf = 0; shelf < 6; shelf++) {
            Due.is("taken(" + shelf + ", 0)", x.taken(shelf, 0), -11);
        }
        Due.is("undo()", x.undo(), -5);
        Due.is("redo()", x.redo(), -5);
        Due.is("back()", x.back(), -5);
        Due.is("led(0, 3)", x.led(0, 3), 0);
        StonesOver other = new StonesOver();
        x.spitter(1, 1);
        x.mend(0, 7, 3);
        Due.is("another one's count(0)", other.count(0), 0);
        Due.is("another one's of(0, 7)", other.of(0, 7), 0);
    }

    private static void spitterByMouthAndSkill() {
        StonesOver x = new StonesOver();
        Due.is("spitter(0, 0)", x.spitter(0, 0), -1);
        Due.is("spitter(10, 0)", x.spitter(10, 0), -1);
        Due.is("spitter(1, -1)", x.spitter(1, -1), -1);
        Due.is("spitter(1, 10)", x.spitter(1, 10), -1);
        Due.is("count(0)", x.count(0), 0);
        for (int i = 0; i < 6; i++) {
            Due.is("spitter(" + (i + 4) + ", " + i + ")", x.spitter(i + 4, i), i);
        }
        Due.is("the seventh", x.spitter(1, 0), -3);
        Due.is("the seventh, not as said", x.spitter(0, 0), -1);
        Due.is("count(0)", x.count(0), 6);
        for (int i = 0; i < 6; i++) {
            Due.is("of MOUTH", x.of(i, 0), i + 4);
            Due.is("of SKILL", x.of(i, 1), i);
            Due.is("of TIRES", x.of(i, 2), 1);
            Due.is("of SLIPS", x.of(i, 3), 0);
            Due.is("of STEP", x.of(i, 4), 10);
        }
        Due.is("spitters are no changes", x.count(2), 0);
    }

    private static void spittersFromARow() {
        StonesOver x = new StonesOver();
        Due.row(x, 2, 0, 99, 5, 4, 3, 9, 0, 0, 1, 9, 9);
        Due.is("spitters(2, 1, 2)", x.spitters(2, 1, 2), 2);
        Due.is("of(0, 0)", x.of(0, 0), 5);
        Due.is("of(0, 1)", x.of(0, 1), 4);
        Due.is("of(0, 2)", x.of(0, 2), 3);
        Due.is("of(1, 0)", x.of(1, 0), 9);
        Due.is("of(1, 2)", x.of(1, 2), 0);
        Due.is("of(1, 4)", x.of(1, 4), 10);
        Due.is("spitters(2, 7, 6)", x.spitters(2, 7, 6), 1);
        Due.is("count(0)", x.count(0), 3);
        Due.is("spitters(6, 0, 1)", x.spitters(6, 0, 1), -1);
        Due.is("spitters(-1, 0, 1)", x.spitters(-1, 0, 1), -1);
        Due.is("spitters(2, 0, 0)", x.spitters(2, 0, 0), -1);
        Due.is("spitters(2, 0, 7)", x.spitters(2, 0, 7), -1);
        Due.is("spitters(6, -1, 1)", x.spitters(6, -1, 1), -1);
        Due.is("spitters(2, -1, 0)", x.spitters(2, -1, 0), -1);
        Due.is("spitters(2, -1, 7)", x.spitters(2, -1, 7), -1);
    }

    private static void spittersFromARowThatLacksOrEnds() {
        StonesOver x = new StonesOver();
        Due.is("nothing there", x.spitters(0, 0, 1), 0);
        Due.row(x, 1, 1, 5, 4, 3);
        Due.is("shorts", x.spitters(1, 0, 1), -12);
        x.body(0);
        x.keep(2, 0);
        Due.is("a try", x.spitters(2, 0, 1), -12);
        Due.row(x, 0, 0, 5, 4, 3, 6, 5);
        Due.is("ends within a three", x.spitters(0, 0, 2), 1);
        Due.is("from beyond the end", x.spitters(0, 5, 1), 0);
        Due.is("from far beyond the end", x.spitters(0, Integer.MAX_VALUE, 6), 0);
        Due.row(x, 0, 0, 5, 4, 3, 10, 5, 1, 1, 1, 1);
        Due.is("a mouth not so", x.spitters(0, 0, 3), 1);
        Due.row(x, 0, 0, 5, 10, 3);
        Due.is("a skill not so", x.spitters(0, 0, 1), 0);
        Due.row(x, 0, 0, 5, 9, 10);
        Due.is("a tiring not so", x.spitters(0, 0, 1), 0);
        Due.row(x, 0, 0, 5, 9, -1);
        Due.is("a tiring below 0", x.spitters(0, 0, 1), 0);
        Due.row(x, 0, 0, 1, 1, 1, 2, 2, 2, 3, 3, 3, 4, 4, 4, 5, 5, 5);
        Due.is("full within the row", x.spitters(0, 0, 5), 4);
        Due.is("of(5, 0)", x.of(5, 0), 4);
        Due.is("full ahead of the row", x.spitters(0, 0, 5), 0);
    }

    /** The place has no bounds: where no three begins, nobody comes, and what is refused is so ahead of that. */
    private static void spittersFromAPlaceBelowNought() {
        for (int i : new int[] {-1, -2, -3, -4, -60, Integer.MIN_VALUE, Integer.MIN_VALUE + 1, -Integer.MAX_VALUE / 3}) {
            StonesOver x = new StonesOver();
            String from = "from place " + i;
            for (int shelf = 0; shelf < 6; shelf++) {
                for (int n = 1; n <= 6; n++) {
                    Due.is(from + ", nothing there, " + n, x.spitters(shelf, i, n), 0);
                }
            }
            Due.row(x, 0, 0, 1, 1, 1, 2, 2, 2, 3, 3, 3);
            for (int n = 1; n <= 6; n++) {
                Due.is(from + ", a row of bytes, " + n, x.spitters(0, i, n), 0);
            }
            Due.row(x, 1, 0);
            Due.is(from + ", a row of no bytes", x.spitters(1, i, 2), 0);
            for (int sort = 1; sort <= 4; sort++) {
                Due.row(x, 2, sort, 1, 1, 1);
                Due.is(from + ", a row of sort " + sort, x.spitters(2, i, 1), -12);
            }
            x.body(0);
            x.keep(3, 0);
            Due.is(from + ", a try", x.spitters(3, i, 1), -12);
            Due.is(from + ", no such shelf", x.spitters(-1, i, 1), -1);
            Due.is(from + ", n 0", x.spitters(0, i, 0), -1);
            Due.is("nobody came", x.count(0), 0);
            Due.is("the first who comes is 0", x.spitters(0, 3, 1), 1);
            Due.is("of(0, 0)", x.of(0, 0), 2);
        }
    }

    private static void mendTellsWhatItWas() {
        StonesOver x = new StonesOver();
        x.spitter(5, 4);
        int[] becomes = {6, 7, 8, 9, 11, 2, 1, -9, 500, 300, 20, 77, 12};
        int[] was = {5, 4, 1, 0, 10, 5, 0, 0, 999, 400, 5, -1, 0};
        for (int what = 0; what <= 12; what++) {
            Due.is("mend(0, " + what + ")", x.mend(0, what, becomes[what]), was[what]);
            Due.is("of(0, " + what + ")", x.of(0, what), becomes[what]);
            Due.is("count(2)", x.count(2), what + 1);
            Due.is("the same number", x.mend(0, what, becomes[what]), becomes[what]);
            Due.is("is no change", x.count(2), what + 1);
        }
        Due.is("another stone", x.of(1, 5), 5);
        Due.is("mend(8, 6, 1)", x.mend(8, 6, 1), 0);
        Due.is("of(8, 6)", x.of(8, 6), 1);
        Due.is("of(7, 6)", x.of(7, 6), 0);
    }

    private static void mendHoldsTheBounds() {
        StonesOver x = new StonesOver();
        x.spitter(5, 4);
        int[] least = {1, 0, 0, 0, 1, 1, 0, -9, 0, 0, 0, -1, 0};
        int[] most = {9, 9, 9, 12, 20, 9, 1, 9, 999, 999, 20, 999, 12};
        for (int what = 0; what <= 12; what++) {
            int before = x.of(0, what);
            Due.is("below, " + what, x.mend(0, what, least[what] - 1), StonesOver.VOID);
            Due.is("above, " + what, x.mend(0, what, most[what] + 1), StonesOver.VOID);
            Due.is("unchanged, " + what, x.of(0, what), before);
            Due.is("least, " + what, x.mend(0, what, least[what]), before);
            Due.is("most, " + what, x.mend(0, what, most[what]), least[what]);
            Due.is("no such number, " + what, x.mend(-1, what, least[what]), StonesOver.VOID);
            Due.is("no such number, " + what, x.mend(what == 5 || what == 6 ? 9 : 1, what, least[what]), StonesOver.VOID);
        }
        Due.is("mend(0, 13, 0)", x.mend(0, 13, 0), StonesOver.VOID);
        Due.is("mend(0, -1, 0)", x.mend(0, -1, 0), StonesOver.VOID);
    }

    private static void ofReadsEachNumber() {
        StonesOver x = new StonesOver();
        for (int what = 0; what <= 4; what++) {
            Due.is("nobody's " + what, x.of(0, what), StonesOver.VOID);
        }
        Due.is("of(9, 5)", x.of(9, 5), StonesOver.VOID);
        Due.is("of(-1, 6)", x.of(-1, 6), StonesOver.VOID);
        Due.is("of(1, 11)", x.of(1, 11), StonesOver.VOID);
        Due.is("of(0, 13)", x.of(0, 13), StonesOver.VOID);
        Due.is("of(0, -1)", x.of(0, -1), StonesOver.VOID);
        x.spitter(1, 2);
        x.spitter(3, 4);
        Due.is("of(1, 0)", x.of(1, 0), 3);
        Due.is("of(0, 1)", x.of(0, 1), 2);
        Due.is("of(2, 1)", x.of(2, 1), StonesOver.VOID);
    }
}
