/** Promises 14 to 18: matches of the spitters in a row. */
public final class MatchTest {
    private static final long MIN = Long.MIN_VALUE;

    public static void main(String[] args) {
        matchTellsWhatEachHas();
        theRowEnds();
        winnerIsTheEarlierOfLikeOnes();
        lastKnowsWhatIsNeeded();
        lastByTheBest();
        lastAlone();
        placeToStand();
        handicapBySizes();
        refusals();
        Due.close("MatchTest");
    }

    /** By this law one has 10 p, less 10 for each that it has spat ahead, and a run brings 3 POINTS more. */
    private static StonesOver three(int... skills) {
        StonesOver x = new StonesOver();
        for (int skill : skills) {
            x.spitter(5, skill);
        }
        Due.law(x, "p*10-t*10");
        x.mend(0, 8, 0);
        return x;
    }

    private static void matchTellsWhatEachHas() {
        StonesOver x = three(4, 7, 0);
        Due.row(x, 0, 0, 2, 0, 1);
        Due.is("best", x.match(0, 30, 0), 5);
        Due.is("best", x.match(0, 30, 1), 9);
        Due.is("best", x.match(0, 30, 2), 12);
        Due.is("together", x.match(0, 31, 0), 5 + 4 + 3);
        Due.is("together", x.match(0, 31, 1), 9 + 8 + 7);
        Due.is("together of nine", x.match(0, 91, 0), 5 + 4 + 3 + 2 + 1);
        Due.is("together of one", x.match(0, 11, 2), 12);
        Due.is("not as many", x.match(0, 31, 3), -2);
        Due.is("not as many", x.match(0, 31, Integer.MAX_VALUE), -2);
        // Each stone at its own angle: for stone 0 the barrel is at 2, for stone 1 at 6.
        x.mend(0, 5, 2);
        x.mend(1, 5, 6);
        Due.law(x, "a=z?400;20");
        Due.is("own angles", x.match(0, 21, 0), 140);
        Due.is("nothing is changed by it", x.led(0, 3), 0);
    }

    private static void theRowEnds() {
        StonesOver x = three(4, 7, 0);
        Due.row(x, 0, 0, 1, 3, 0);
        Due.is("at one that is none", x.match(0, 10, 1), -2);
        Due.row(x, 0, 0, 1, -1, 0);
        Due.is("at one below 0", x.match(0, 10, 1), -2);
        Due.row(x, 0, 0, 1, 0, 1, 2);
        Due.is("ahead of one that came before", x.match(0, 10, 1), 9);
        Due.is("at one that came before", x.match(0, 10, 2), -2);
        Due.row(x, 0, 0, 1 + 256, 0);
        Due.is("a byte keeps its lowest bits", x.match(0, 10, 0), 12);
        x.spitter(5, 1);
        x.spitter(5, 2);
        x.spitter(5, 3);
        Due.row(x, 0, 0, 5, 4, 3, 2, 1, 0, 0, 0);
        Due.is("six", x.match(0, 10, 5), 9);
        Due.is("six at most", x.match(0, 10, 6), -2);
    }

    private static void winnerIsTheEarlierOfLikeOnes() {
        StonesOver x = three(4, 7, 7);
        Due.row(x, 0, 0, 0, 2, 1);
        Due.is("the earlier", x.winner(0, 20), 2);
        x.mend(1, 2, 0);
        Due.is("the best as before", x.winner(0, 20), 2);
        Due.is("together the one that does not tire", x.winner(0, 21), 1);
        Due.row(x, 0, 0);
        Due.is("nobody", x.winner(0, 20), -2);
        Due.law(x, "0");
        Due.row(x, 0, 0, 1, 0);
        Due.is("nobody has anything", x.winner(0, 20), 1);
    }

    private static void lastKnowsWhatIsNeeded() {
        StonesOver x = three(4, 3);
        x.mend(1, 3, 4);
        Due.row(x, 0, 0, 0, 1);
        // 9 + 8 + 7 against 8 + 7 + 6, each run 3 more: one run with luck is less, two with luck have 27.
        Due.is("two of three", x.match(0, 31, 0), 24);
        // one run: 24 is not more; two: both must hold, 4 of 9; three: 30, or all but one: never (30 - 11 = 19).
        Due.is("chance above", x.last(0, 31, 0), 4);
        Due.is("chance below", x.last(0, 31, 1), 9);
        Due.is("bits, the least", x.last(0, 31, 2), 3);
        x.mend(1, 3, 12);
        Due.is("none", x.last(0, 31, 0), 0);
        Due.is("none", x.last(0, 31, 1), 1);
        Due.is("none, no runs", x.last(0, 31, 2), 0);
        x.mend(1, 3, 0);
        Due.is("sure", x.last(0, 31, 0), 1);
        Due.is("sure", x.last(0, 31, 2), 3);
        x.mend(1, 1, 5);
        Due.is("ahead without a run", x.last(0, 31, 0), 1);
        Due.is("ahead without a run", x.last(0, 31, 2), 0);
        Due.row(x, 0, 0, 1, 0);
        Due.is("the other is last", x.last(0, 31, 2), 3);
    }

    private static void lastByTheBest() {
        StonesOver x = three(4, 3);
        x.mend(1, 3, 4);
        Due.row(x, 0, 0, 0, 1);
        // 8, 7, 6 against 9: with a run 11, 10, 9: the first two may beat it: 1 less 1/3 by 1/3.
        Due.is("chance above", x.last(0, 30, 0), 8);
        Due.is("chance below", x.last(0, 30, 1), 9);
        Due.is("bits", x.last(0, 30, 2), 3);
        x.mend(1, 2, 0);
        Due.is("not tired", x.last(0, 30, 0), 26);
        Due.is("not tired", x.last(0, 30, 1), 27);
        Due.is("not tired", x.last(0, 30, 2), 7);
        Due.is("nine", x.last(0, 90, 1), 19683);
        Due.is("nine", x.last(0, 90, 0), 19682);
        Due.is("nine", x.last(0, 90, 2), 511);
    }

    private static void lastAlone() {
        StonesOver x = three(4);
        Due.row(x, 0, 0);
        Due.is("nobody", x.last(0, 31, 0), -2);
        Due.is("nobody", x.last(0, 31, 2), -2);
        Due.row(x, 0, 0, 0);
        x.mend(0, 3, 12);
        Due.law(x, "0");
        Due.is("surely", x.last(0, 91, 0), 1);
        Due.is("surely", x.last(0, 91, 1), 1);
        Due.is("surely", x.last(0, 91, 2), 0);
    }

    private static void placeToStand() {
        StonesOver x = three(4, 7, 7, 2);
        Due.row(x, 0, 0, 0, 1, 3, 2);
        Due.is("up to the like one", x.place(0, 10, 1), 2);
        Due.is("up to the like one", x.place(0, 10, 2), 1);
        Due.is("never", x.place(0, 10, 0), -2);
        x.mend(2, 1, 6);
        Due.is("the greatest", x.place(0, 10, 1), 3);
        Due.is("never now", x.place(0, 10, 2), -2);
        Due.row(x, 0, 0, 0, 1, 3);
        Due.is("not in the row", x.place(0, 10, 2), -2);
        Due.is("no such spitter", x.place(0, 10, 4), -1);
        Due.row(x, 0, 0, 2);
        Due.is("alone", x.place(0, 10, 2), 0);
    }

    private static void handicapBySizes() {
        StonesOver x = new StonesOver();
        x.spitter(5, 4);
        x.spitter(5, 3);
        Due.law(x, "p*10-z*5");
        x.mend(0, 8, 0);
        Due.row(x, 0, 0, 0, 1);
        // 65 and 55 with SIZE 5: 6 and 5; larger by 2: 55 is 5: still the earlier; by 3: 50; by 4: 45: 4.
        Due.is("by four", x.handicap(0, 10, 0), 4);
        Due.is("does not win", x.handicap(0, 10, 1), 0);
        Due.row(x, 0, 0, 1, 0);
        Due.is("by two, when it stands behind", x.handicap(0, 10, 0), 2);
        for (int stone = 0; stone < 9; stone++) {
            x.mend(stone, 5, 9);
        }
        Due.is("none can be larger", x.handicap(0, 90, 0), -2);
        x.mend(1, 5, 8);
        Due.is("only one can be larger", x.handicap(0, 20, 0), 1);
        Due.is("and is not larger afterwards", x.of(1, 5), 8);
        Due.row(x, 0, 0, 1);
        Due.is("not in the row", x.handicap(0, 10, 0), 0);
        Due.is("alone", x.handicap(0, 10, 1), -2);
        Due.row(x, 0, 0);
        Due.is("nobody", x.handicap(0, 10, 1), 0);
        Due.is("no such spitter", x.handicap(0, 10, 2), -1);
    }

    private static void refusals() {
        StonesOver x = three(4);
        Due.is("match, nothing", x.match(0, 10, 0), -11);
        Due.is("winner, nothing", x.winner(0, 10), -11);
        Due.is("last, nothing", x.last(0, 10, 0), MIN);
        Due.is("place, nothing", x.place(0, 10, 0), -11);
        Due.is("handicap, nothing", x.handicap(0, 10, 0), -11);
        Due.row(x, 0, 2, 0);
        x.body(0);
        x.keep(1, 0);
        for (int shelf = 0; shelf < 2; shelf++) {
            Due.is("match, another kind", x.match(shelf, 10, 0), -12);
            Due.is("winner, another kind", x.winner(shelf, 10), -12);
            Due.is("last, another kind", x.last(shelf, 10, 0), MIN);
            Due.is("place, another kind", x.place(shelf, 10, 0), -12);
            Due.is("handicap, another kind", x.handicap(shelf, 10, 0), -12);
        }
        Due.is("match, i below 0", x.match(0, 10, -1), -1);
        Due.is("place, no such spitter", x.place(0, 10, 1), -1);
        Due.is("handicap, no such spitter", x.handicap(2, 10, -1), -1);
        Due.row(x, 0, 0, 0);
        Due.is("last, no such part", x.last(0, 10, 3), MIN);
        Due.is("last, no such part", x.last(0, 10, -1), MIN);
        int[] nrs = {-1, 0, 9, 12, 19, 92, 100, Integer.MIN_VALUE, Integer.MAX_VALUE};
        for (int nr : nrs) {
            Due.is("match of nr " + nr, x.match(0, nr, 0), -1);
            Due.is("winner of nr " + nr, x.winner(0, nr), -1);
            Due.is("last of nr " + nr, x.last(0, nr, 0), MIN);
            Due.is("place of nr " + nr, x.place(0, nr, 0), -1);
            Due.is("handicap of nr " + nr, x.handicap(0, nr, 0), -1);
        }
        int[] shelves = {-1, 6, Integer.MAX_VALUE};
        for (int shelf : shelves) {
            Due.is("match on " + shelf, x.match(shelf, 10, 0), -1);
            Due.is("winner on " + shelf, x.winner(shelf, 10), -1);
            Due.is("last on " + shelf, x.last(shelf, 10, 0), MIN);
            Due.is("place on " + shelf, x.place(shelf, 10, 0), -1);
            Due.is("handicap on " + shelf, x.handicap(shelf, 10, 0), -1);
        }
    }
}
