/** The sentences of the document that bound matches, one by one. */
public final class MatchBoundsTest {
    private static final long NONE = Long.MIN_VALUE;

    public static void main(String[] args) {
        ask();
        Due.close("MatchBoundsTest");
    }

    static void ask() {
        rowsOfSpitters();
        stonesAndRules();
        winners();
        theLastOne();
        theLastOneAlone();
        placesToStand();
        handicaps();
    }

    /** SPITTERS of these strengths together (MOUTH 1); each has so many POINTS, and a RUN brings 3 more. */
    private static StonesOver strong(int... strengths) {
        StonesOver x = new StonesOver();
        for (int i = 0; i < strengths.length; i++) {
            x.spitter(Math.min(9, strengths[i]), Math.max(0, strengths[i] - 9));
            x.mend(i, 2, 0);
        }
        x.mend(0, 8, 0);
        Due.law(x, "p*10-t*10");
        return x;
    }

    private static void howMany(String call, StonesOver x, int n) {
        for (int i = 0; i < 8; i++) {
            Due.is(call + ", place " + i, x.match(0, 10, i) == -2 ? 0 : 1, i < n ? 1 : 0);
        }
        Due.is(call + ", far", x.match(0, 10, Integer.MAX_VALUE), -2);
    }

    private static void rowsOfSpitters() {
        Due.sentence("3 A MATCH of SPITTERS in a ROW of bytes on a SHELF (6 at most; one that is none, or came before, ends it)");
        StonesOver x = strong(1, 2, 3, 4, 5);
        Due.row(x, 0, 0);
        howMany("no elements", x, 0);
        Due.row(x, 0, 0, 4);
        howMany("one", x, 1);
        Due.row(x, 0, 0, 4, 3, 2, 1, 0);
        howMany("five", x, 5);
        Due.row(x, 0, 0, 4, 3, 2, 1, 0, 5);
        howMany("one that is none, as yet", x, 5);
        x.spitter(9, 9);
        howMany("now it is one", x, 6);
        Due.row(x, 0, 0, 4, 3, 2, 1, 0, 5, 0, 1);
        howMany("six at most", x, 6);
        Due.row(x, 0, 0, 5, 6, 0);
        howMany("6 is none", x, 1);
        Due.row(x, 0, 0, 5, -1, 0);
        howMany("-1 is none", x, 1);
        Due.row(x, 0, 0, 127);
        howMany("127 is none", x, 0);
        Due.row(x, 0, 0, 128, 0);
        howMany("128 keeps -128, which is none", x, 0);
        Due.row(x, 0, 0, 256, 257, 258);
        howMany("256, 257, 258 keep 0, 1, 2", x, 3);
        Due.row(x, 0, 0, 3, 3, 1);
        howMany("just before", x, 1);
        Due.row(x, 0, 0, 3, 1, 2, 3, 4);
        howMany("long before", x, 3);
        x.row(0, 0, 60);
        howMany("sixty that are 0", x, 1);
        Due.is("who is ended off has no place", x.place(0, 10, 1), -2);
        Due.is("who is ended off has no handicap", x.handicap(0, 10, 1), 0);
        Due.is("i -1", x.match(0, 10, -1), -1);
    }

    private static void stonesAndRules() {
        Due.sentence("each spits STONES 0 .. n less 1 (1 .. 9), one after the other, from 0 ahead on,"
                + " at its BEST ANGLE for POINTS without a RUN: how much one has, by its best (rule 0), or all together (rule 1)");
        StonesOver x = strong(12);
        x.mend(0, 2, 1);
        Due.law(x, "a=5?z*100-t*10;0");
        x.mend(0, 9, 999);
        x.mend(0, 10, 0);
        for (int stone = 0; stone < 9; stone++) {
            x.mend(stone, 5, stone + 1);
        }
        Due.row(x, 0, 0, 0);
        // STONES have 10, 20 .. 90, less how many are ahead.
        int together = 0;
        for (int n = 1; n <= 9; n++) {
            together += 10 * n - (n - 1);
            Due.is("the best of " + n, x.match(0, 10 * n, 0), 10 * n - (n - 1));
            Due.is(n + " together", x.match(0, 10 * n + 1, 0), together);
        }
        int[] nrs = {0, 1, 9, 100, 101, 12, 19, 92, 99, -1, -10, -11, Integer.MIN_VALUE, Integer.MAX_VALUE};
        for (int nr : nrs) {
            Due.is("match, nr " + nr, x.match(0, nr, 0), -1);
            Due.is("winner, nr " + nr, x.winner(0, nr), -1);
            Due.is("last, nr " + nr, x.last(0, nr, 0), NONE);
            Due.is("place, nr " + nr, x.place(0, nr, 0), -1);
            Due.is("handicap, nr " + nr, x.handicap(0, nr, 0), -1);
        }
        x.mend(0, 3, 12);
        x.mend(0, 12, 12);
        Due.is("no slip, no laugh", x.match(0, 90, 0), 82);
        x.spit(0, 0, 0);
        Due.is("from 0 ahead on, whatever was spat", x.match(0, 90, 0), 82);
        Due.law(x, "p=15?900;p");
        Due.is("without a run", x.match(0, 91, 0), 9);
    }

    private static void winners() {
        Due.sentence("who wins (of like ones the earlier in the ROW; NOT: nobody)");
        StonesOver x = strong(4, 7, 7, 4);
        long[][] rows = {{}, {0}, {2, 1}, {1, 2}, {0, 3}, {3, 0}, {0, 1, 2}, {3, 2, 0, 1}, {9, 1}, {0, 0, 1}};
        int[] wins = {-2, 0, 2, 1, 0, 3, 1, 2, -2, 0};
        for (int i = 0; i < rows.length; i++) {
            Due.row(x, 0, 0, rows[i]);
            Due.is("row " + i, x.winner(0, 10), wins[i]);
        }
        Due.law(x, "0");
        Due.row(x, 0, 0, 2, 1, 0, 3);
        Due.is("all have nothing", x.winner(0, 91), 2);
        Due.is("all have nothing", x.winner(0, 90), 2);
    }

    private static void last(String call, StonesOver x, int nr, long above, long below, long bits) {
        Due.is(call + ", above", x.last(0, nr, 0), above);
        Due.is(call + ", below", x.last(0, nr, 1), below);
        Due.is(call + ", bits", x.last(0, nr, 2), bits);
    }

    private static void theLastOne() {
        Due.sentence("LAST: the last one of the ROW knows what is needed and spits at each STONE with a RUN or not, all set ahead"
                + " (bits of the STONES with a RUN), so that it is likeliest that it has more than each other one"
                + " (by the rule; alone: surely; a slip is nought, but counts as spat): the chance: a fraction; the bits"
                + " (of like ones the least)");
        StonesOver x = strong(9, 9);
        x.mend(1, 3, 6);
        Due.row(x, 0, 0, 0, 1);
        // 9 each time without, 12 with a RUN: as much is not more.
        last("best of one", x, 10, 1, 2, 1);
        last("best of two", x, 20, 3, 4, 3);
        last("best of nine", x, 90, 511, 512, 511);
        // One run of two: 21 or 9; two: 24, 12, 12, 0: 18 is beaten by one or by both.
        last("together of two", x, 21, 1, 2, 1);
        // One run of three: 30 or 18; two: 33, 21, 21, 9: 27 is beaten by one as well as by none less than that.
        last("together of three", x, 31, 1, 2, 1);
        x.mend(1, 3, 0);
        last("never slips", x, 31, 1, 1, 1);
        last("never slips, best of two", x, 20, 1, 1, 1);
        x.mend(1, 3, 12);
        last("always slips", x, 91, 0, 1, 0);
        last("always slips, the best", x, 90, 0, 1, 0);
        x.mend(1, 3, 6);
        x.mend(1, 0, 8);
        // 8 and 11 against 9: of two together (18) 19 with one, 22 with two.
        last("weaker", x, 21, 1, 2, 1);
        x.mend(1, 0, 6);
        last("as much with a run", x, 10, 0, 1, 0);
        last("as much with two runs", x, 21, 0, 1, 0);
        x.mend(1, 0, 9);
        x.mend(1, 1, 1);
        last("more already", x, 10, 1, 1, 0);
        last("more already", x, 91, 1, 1, 0);
        x.mend(0, 2, 9);
        x.mend(1, 1, 0);
        x.mend(1, 2, 1);
        // A slip counts as spat: 12 and 8 with a run first, 9 and 11 with a run then; against 9 the first by bits.
        last("tires", x, 20, 3, 4, 3);
        Due.row(x, 0, 0, 1, 0);
        last("tires most, never slips", x, 20, 1, 1, 1);
        tiresThoughItSlips();
        theLeastBits();
    }

    /** What STONE 1 brings hangs on how many are spat ahead: a slip is one of them. */
    private static void tiresThoughItSlips() {
        StonesOver x = strong(9, 9);
        x.mend(1, 2, 1);
        x.mend(1, 3, 6);
        x.mend(1, 5, 9);
        Due.law(x, "z=9&t=1?150;z=9?200;p=12?130;100");
        Due.row(x, 0, 0, 0, 1);
        // The other does not tire: 10 and 20. The last one: 10 and 15, or 13 and 15.
        last("tired by a slip, the best", x, 20, 0, 1, 0);
        Due.law(x, "z=9&t=1?150;z=9?90;p=12?130;100");
        // 19 against 25, and 28 with luck.
        last("more without a run", x, 21, 1, 1, 0);
        Due.law(x, "z=9&t=1?150;z=9?160;p=12?130;100");
        // 25 against 26, and 28 with luck at the first.
        last("more with luck", x, 21, 1, 2, 1);
        x.mend(0, 0, 5);
        Due.law(x, "p=5?100;z=9&t=0?300;z=9?50;p=12?130;100");
        // 15 or 18 against 20; a slip brings 0 and 5: were it not spat, it would bring 0 and 30.
        last("a slip counts as spat", x, 21, 0, 1, 0);
    }

    private static void theLeastBits() {
        StonesOver x = strong(9, 9);
        x.mend(1, 3, 4);
        Due.row(x, 0, 0, 0, 1);
        // Who does not tire may run at any STONE: the first is the least of the bits.
        last("one run of three", x, 31, 2, 3, 1);
        Due.law(x, "p=12&z=9?200;90");
        x.mend(2, 5, 9);
        last("a run at stone 2 only", x, 30, 2, 3, 4);
        x.mend(1, 5, 9);
        last("a run at stone 1 or 2, the best", x, 30, 8, 9, 6);
        // 49, 29 or 9 against 27: one of both is enough.
        last("a run at stone 1 or 2, together", x, 31, 8, 9, 6);
        StonesOver three = strong(5, 9, 8);
        Due.row(three, 0, 0, 0, 1, 2);
        last("more than each other one", three, 10, 1, 1, 1);
        Due.row(three, 0, 0, 1, 0, 2);
        last("more than each other one", three, 10, 1, 1, 1);
        Due.row(three, 0, 0, 2, 1, 0);
        last("not more than one of them", three, 10, 0, 1, 0);
    }

    private static void theLastOneAlone() {
        Due.sentence("LAST: the chance (part 0, 1), the bits (2). Long.MIN_VALUE, too: no ROW of bytes; NOT");
        StonesOver x = strong(9);
        x.mend(0, 3, 12);
        Due.row(x, 0, 0, 0);
        last("alone", x, 90, 1, 1, 0);
        last("alone", x, 91, 1, 1, 0);
        Due.law(x, "0");
        last("alone with nothing", x, 10, 1, 1, 0);
        Due.row(x, 0, 0, 0, 0);
        last("alone though it stands there twice", x, 11, 1, 1, 0);
        Due.row(x, 0, 0);
        last("nobody", x, 10, -2, -2, -2);
        Due.row(x, 0, 0, 1);
        last("nobody", x, 91, -2, -2, -2);
        Due.is("nobody, part 3", x.last(0, 10, 3), NONE);
        Due.is("nobody, part -1", x.last(0, 10, -1), NONE);
        last("nothing there", strong(9), 10, NONE, NONE, NONE);
        for (int sort = 1; sort <= 4; sort++) {
            Due.row(x, 0, sort, 0);
            last("a row of sort " + sort, x, 10, NONE, NONE, NONE);
        }
        x.body(0);
        x.keep(0, 0);
        last("a try", x, 10, NONE, NONE, NONE);
        Due.is("no such shelf", x.last(6, 10, 0), NONE);
        Due.is("no such shelf", x.last(-1, 10, 0), NONE);
    }

    private static void places(String call, StonesOver x, int... want) {
        for (int spitter = 0; spitter < want.length; spitter++) {
            Due.is(call + ", " + spitter, x.place(0, 10, spitter), want[spitter]);
        }
    }

    private static void placesToStand() {
        Due.sentence("GO FIRST: in which place of the ROW (0 on) a SPITTER should stand, so that it wins, all else as ever,"
                + " like ones deciding by the place (of such places the greatest); NOT");
        StonesOver x = strong(5, 7, 7, 7, 6, 1);
        Due.row(x, 0, 0, 0, 1, 4, 2, 5, 3);
        // Without itself: 5, 6, 7, 1, 7 for the first like one: ahead of place 2; 5, 7 .. for the others.
        places("six", x, -2, 2, 1, 1, -2, -2);
        Due.row(x, 0, 0, 1);
        places("alone", x, -2, 0, -2);
        Due.row(x, 0, 0, 0, 4, 5);
        places("the best of three", x, -2, -2, -2, -2, 2, -2);
        Due.row(x, 0, 0, 4, 0, 5);
        places("the best of three", x, -2, -2, -2, -2, 2, -2);
        Due.row(x, 0, 0, 1, 2);
        places("like ones", x, -2, 0, 0, -2);
        Due.row(x, 0, 0);
        places("nobody", x, -2, -2, -2, -2, -2, -2);
        Due.is("spitter 6", x.place(0, 10, 6), -1);
        Due.is("spitter -1", x.place(0, 10, -1), -1);
        Due.law(x, "0");
        Due.row(x, 0, 0, 5, 4, 3, 2, 1, 0);
        places("all have nothing", x, 0, 0, 0, 0, 0, 0);
    }

    private static void handicaps() {
        Due.sentence("HANDICAP: by how many SIZES (1 .. 8; 9 at most each) all STONES must be larger for one, so that it does not win"
                + " (0: it does not now); NOT");
        StonesOver x = strong(9, 9);
        Due.law(x, "a=0?200-z*10;0");
        for (int stone = 0; stone < 9; stone++) {
            x.mend(stone, 5, 1);
        }
        Due.row(x, 0, 0, 0, 1);
        Due.is("by one", x.handicap(0, 90, 0), 1);
        Due.is("does not win now", x.handicap(0, 90, 1), 0);
        Due.law(x, "z=9?90;100");
        Due.is("by eight", x.handicap(0, 90, 0), 8);
        Due.is("by eight", x.handicap(0, 91, 0), 8);
        x.mend(0, 5, 2);
        Due.is("by seven, one is 9 at most then", x.handicap(0, 91, 0), 7);
        Due.is("by eight, the best", x.handicap(0, 20, 0), 8);
        Due.law(x, "z=8?90;z=9?110;100");
        x.mend(0, 5, 1);
        Due.is("by seven of eight", x.handicap(0, 10, 0), 7);
        x.mend(0, 5, 9);
        Due.is("9 cannot be larger", x.handicap(0, 10, 0), -2);
        Due.law(x, "z=1?100;200");
        x.mend(0, 5, 1);
        Due.is("the larger, the better", x.handicap(0, 90, 0), -2);
        Due.law(x, "z>5?0;100");
        Due.row(x, 0, 0, 0);
        Due.is("alone", x.handicap(0, 90, 0), -2);
        Due.is("not in the row", x.handicap(0, 90, 1), 0);
        Due.row(x, 0, 0);
        Due.is("nobody", x.handicap(0, 90, 0), 0);
        Due.is("spitter 2", x.handicap(0, 90, 2), -1);
        Due.is("spitter -1", x.handicap(0, 90, -1), -1);
        Due.is("the stones stay as they are", x.of(0, 5) * 10 + x.of(8, 5), 11);
        Due.row(x, 0, 0, 1, 0);
        Due.is("the earlier of like ones wins", x.handicap(0, 90, 0), 0);
        Due.is("by five", x.handicap(0, 90, 1), 5);
    }
}
