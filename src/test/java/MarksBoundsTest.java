/** The sentences of the document that bound steps, marks in the lane and draws, one by one. */
public final class MarksBoundsTest {
    private static final int LEAST = Integer.MIN_VALUE, MOST = Integer.MAX_VALUE;

    public static void main(String[] args) {
        ask();
        Due.close("MarksBoundsTest");
    }

    static void ask() {
        measured();
        whoseSteps();
        marks();
        judged();
        whoAtWhich();
        ahead();
        howManyDrawn();
        drawnByASeed();
        laughs();
    }

    private static void measured() {
        Due.sentence("MEASURED by one's STEPS: where it STOPS by STEP (cut)");
        StonesOver x = Due.lane(2, "");
        for (int step = 1; step <= 20; step++) {
            x.mend(1, 4, step);
            Due.is("0 in steps of " + step, x.steps(1, 0), 0);
            Due.is("less than one step of " + step, x.steps(1, step - 1), 0);
            Due.is("one step of " + step, x.steps(1, step), 1);
            Due.is("just two steps of " + step, x.steps(1, 2 * step), 2);
            Due.is("just less than two of " + step, x.steps(1, 2 * step - 1), 1);
            Due.is("999 in steps of " + step, x.steps(1, 999), 999 / step);
        }
        Due.is("x 1000", x.steps(1, 1000), -1);
        Due.is("x -1", x.steps(1, -1), -1);
        Due.is("x far", x.steps(1, MOST), -1);
        Due.is("x far below", x.steps(1, LEAST), -1);
        Due.is("spitter 2", x.steps(2, 0), -1);
        Due.is("spitter -1", x.steps(-1, 0), -1);
        Due.is("spitter 0", x.steps(0, 999), 99);
    }

    private static void whoseSteps() {
        Due.sentence("WHOSE STEPS: told a count for where it STOPS: whose (bits) they may be");
        StonesOver x = new StonesOver();
        Due.is("nobody's", x.whose(0, 0), 0);
        for (int i = 0; i < 6; i++) {
            x.spitter(1, 0);
            x.mend(i, 4, i + 1);
            Due.is("all at 0 of " + (i + 1), x.whose(0, 0), (2 << i) - 1);
        }
        Due.is("999 and 999", x.whose(999, 999), 1);
        Due.is("998 and 499", x.whose(998, 499), 2);
        Due.is("999 and 499", x.whose(999, 499), 2);
        Due.is("5 and 1", x.whose(5, 1), 4 + 8 + 16);
        Due.is("5 and 0", x.whose(5, 0), 32);
        Due.is("6 and 1", x.whose(6, 1), 8 + 16 + 32);
        Due.is("0 and 1", x.whose(0, 1), 0);
        Due.is("x 1000", x.whose(1000, 500), -1);
        Due.is("x -1", x.whose(-1, 0), -1);
        Due.is("n 1000", x.whose(999, 1000), -1);
        Due.is("n -1", x.whose(0, -1), -1);
        Due.is("both far", x.whose(MOST, MOST), -1);
        Due.is("both far below", x.whose(LEAST, LEAST), -1);
    }

    /** By this law a STONE's mark tells its angle, its SIZE (one more than its number) and how many are ahead. */
    private static StonesOver told() {
        StonesOver x = Due.lane(2, "a*100+z*10-t+p-9");
        x.mend(0, 8, 0);
        x.mend(0, 10, 0);
        x.mend(0, 9, 0);
        for (int stone = 0; stone < 9; stone++) {
            x.mend(stone, 5, stone + 1);
        }
        x.mend(1, 1, 9);
        return x;
    }

    private static void marks() {
        Due.sentence("MARKS: a ROW of shorts: where STONES STOPPED, one after the other, from 0 ahead on, all of one SPITTER,"
                + " without a RUN");
        StonesOver x = Due.lane(1, "p=12?500;395+a-t");
        x.mend(0, 11, 396);
        Due.row(x, 0, 1, 500);
        Due.is("not with a run", x.who(0, 0), 0);
        Due.is("not with a run", x.judge(0, 0), 0);
        Due.is("not with a run", x.ahead(0, 0), -2);
        // In the barrel it stops, before it it rolls on: 395 at 0, and then 394 and 39 more.
        Due.row(x, 0, 1, 395, 394 + 39, 393 + 39);
        Due.is("stopped, not landed", x.judge(0, 0), -2);
        Due.is("stopped, not landed", x.who(0, 1), 0);
        Due.row(x, 0, 1, 395, 394);
        Due.is("landed, not stopped", x.judge(0, 0), 1);
        Due.row(x, 0, 1, 396, 395, 394 + 39);
        Due.is("a hen is no matter", x.judge(0, 1), -2);
        x.spit(0, 0, 0);
        Due.is("from 0 ahead on", x.judge(0, 1), -2);
        Due.is("from 0 ahead on", x.ahead(0, 1), 0);
        Due.row(x, 0, 1, 395, 394 + 39);
        Due.is("as with one ahead", x.ahead(0, 1), 1);
        x.spitter(5, 5);
        Due.law(x, "p");
        Due.row(x, 0, 1, 9, 11);
        Due.is("not of two", x.who(0, 0), 0);
        for (int sort = 0; sort <= 4; sort++) {
            Due.row(x, 1, sort, 9);
            Due.is("a row of sort " + sort, x.who(1, 0), sort == 1 ? 9 : -12);
        }
    }

    private static void judged() {
        Due.sentence("JUDGED with STONES 0, 1, 2 in turn (9: 0 again) at one angle: the first that is not so; NOT");
        StonesOver x = told();
        Due.row(x, 0, 1);
        Due.is("no marks", x.judge(0, 0), -2);
        Due.is("no marks at 8", x.judge(0, 18), -2);
        x.row(0, 1, 60);
        for (int i = 0; i < 60; i++) {
            Due.is("put", x.put(0, i, 800 + (i % 9 + 1) * 10 - i), 1);
        }
        Due.is("sixty", x.judge(0, 8), -2);
        Due.is("sixty at 7", x.judge(0, 7), 0);
        Due.is("sixty of the other", x.judge(0, 18), 0);
        int[] places = {59, 58, 27, 18, 10, 9, 8, 1, 0};
        for (int place : places) {
            x.put(0, place, x.element(0, place) + 1);
            Due.is("all but " + place + " and some behind", x.judge(0, 8), place);
        }
        Due.row(x, 0, 1, 800 + 10, 800 + 20 - 1, -1);
        Due.is("a mark below 0", x.judge(0, 8), 2);
        Due.row(x, 0, 1, 65536 + 810);
        Due.is("a short keeps its lowest bits", x.judge(0, 8), -2);
        x.mend(0, 3, 12);
        x.spit(0, 0, 0);
        Due.is("from 0 ahead on, whatever was spat", x.judge(0, 8), -2);
        Due.is("angle 9", x.judge(0, 9), -1);
        Due.is("spitter 2", x.judge(0, 20), -1);
        Due.is("sa -1", x.judge(0, -1), -1);
        Due.is("sa far", x.judge(0, MOST), -1);
        Due.is("sa far below", x.judge(0, LEAST), -1);
    }

    private static void whoAtWhich() {
        Due.sentence("WHO, AT WHICH: how many of SPITTER and angle it may be; the first by SPITTERS, then angles:"
                + " 10 times the one and the angle; NOT");
        StonesOver nobody = Due.lane(0, "");
        Due.row(nobody, 0, 1);
        Due.is("nobody is there", nobody.who(0, 0), 0);
        Due.is("nobody is there", nobody.who(0, 1), -2);
        StonesOver x = told();
        Due.row(x, 0, 1);
        Due.is("no marks", x.who(0, 0), 18);
        Due.is("no marks", x.who(0, 1), 0);
        Due.row(x, 0, 1, 810);
        Due.is("one", x.who(0, 0), 1);
        Due.is("one", x.who(0, 1), 8);
        Due.row(x, 0, 1, 815);
        Due.is("the other", x.who(0, 0), 1);
        Due.is("the other", x.who(0, 1), 18);
        Due.row(x, 0, 1, 10, 19);
        Due.is("at 0", x.who(0, 0), 1);
        Due.is("at 0", x.who(0, 1), 0);
        Due.row(x, 0, 1, 10, 20);
        Due.is("nobody so", x.who(0, 0), 0);
        Due.is("nobody so", x.who(0, 1), -2);
        Due.law(x, "a=7|a=8&p>9?100;50");
        Due.row(x, 0, 1, 100, 100);
        Due.is("three", x.who(0, 0), 3);
        Due.is("three", x.who(0, 1), 7);
        Due.law(x, "a=7&p>9|a=8?100;50");
        Due.is("by spitters ahead of angles", x.who(0, 1), 8);
        Due.law(x, "a>8|a<0?300;100");
        Due.row(x, 0, 1, 300);
        Due.is("no angle beyond", x.who(0, 0), 0);
        Due.is("no angle beyond", x.who(0, 1), -2);
        Due.is("what -1", x.who(0, -1), -1);
        Due.is("what 2", x.who(0, 2), -1);
    }

    private static void ahead() {
        Due.sentence("AHEAD: how many it had spat ahead (0 .. 99; the least) at an angle; NOT");
        StonesOver x = told();
        Due.row(x, 0, 1);
        Due.is("no marks", x.ahead(0, 8), 0);
        int[] counts = {0, 1, 50, 98, 99};
        for (int count : counts) {
            Due.row(x, 0, 1, 810 - count, 820 - count - 1);
            Due.is(count + " ahead", x.ahead(0, 8), count);
        }
        Due.row(x, 0, 1, 810 - 100, 820 - 101);
        Due.is("100 ahead", x.ahead(0, 8), -2);
        Due.row(x, 0, 1, 810 + 1);
        Due.is("-1 ahead", x.ahead(0, 8), -2);
        x.row(0, 1, 60);
        for (int i = 0; i < 60; i++) {
            x.put(0, i, 800 + (i % 9 + 1) * 10 - i - 99);
        }
        Due.is("sixty behind 99", x.ahead(0, 8), 99);
        Due.law(x, "t<7?100;90");
        Due.row(x, 0, 1, 100, 100, 100);
        Due.is("the least of five", x.ahead(0, 0), 0);
        Due.row(x, 0, 1, 100, 90);
        Due.is("just at the sixth", x.ahead(0, 0), 6);
        Due.row(x, 0, 1, 90, 90);
        Due.is("the least from seven on", x.ahead(0, 0), 7);
        x.mend(0, 2, 0);
        Due.is("who never tires", x.ahead(0, 0), -2);
        Due.is("angle 9", x.ahead(0, 9), -1);
        Due.is("spitter 2", x.ahead(0, 20), -1);
        Due.is("sa -1", x.ahead(0, -1), -1);
        Due.is("sa far below", x.ahead(0, LEAST), -1);
    }

    private static void howManyDrawn() {
        Due.sentence("4 DRAWN: n tries (1 .. 99) of a SPITTER with a STONE, its best angle for POINTS, with a RUN or not,"
                + " from k ahead on");
        StonesOver x = Due.lane(1, "a=6?p*50-t;0");
        x.mend(0, 8, 0);
        x.mend(0, 10, 0);
        x.mend(0, 9, 999);
        int together = 0;
        for (int n = 1; n <= 99; n++) {
            together += (450 - (n - 1)) / 10;
            if (n < 3 || n > 97) {
                Due.is(n + " tries", x.drawn(0, 0, 7, 100 * n), together);
                Due.is("the best of " + n, x.drawn(0, 0, 7, 100 * n + 1), 45);
            }
        }
        Due.is("one with a run", x.drawn(0, 8000, 7, 110), 60);
        Due.is("the best with a run", x.drawn(0, 8000, 7, 9911), 60);
        Due.is("two from 99 on", x.drawn(0, 99, 7, 200), 35 + 35);
        Due.is("ninety-nine from 99 on, the best", x.drawn(0, 99, 7, 9901), 35);
        int[] nws = {0, 1, 10, 11, 99, 102, 109, 120, 190, 191, 9920, 9912, 9999, 10000, 10011, -1, -100, LEAST, MOST};
        for (int nw : nws) {
            Due.is("nw " + nw, x.drawn(0, 0, 7, nw), -1);
        }
        Due.is("k 100", x.drawn(0, 100, 7, 100), -1);
        Due.is("stone 9", x.drawn(0, 9000, 7, 100), -1);
        Due.is("spitter 1", x.drawn(1, 0, 7, 100), -1);
        Due.is("nothing spat", x.led(0, 2) + x.led(0, 3), 0);
    }

    /** In which of the draws something happens: by how far z is shifted, and below how many of twelve. */
    private static boolean[] happens(int seed, int n, int by, int below) {
        boolean[] drawn = new boolean[n];
        long z = seed;
        for (int i = 0; i < n; i++) {
            z = z * 1103515245L + 12345 & 0xFFFFFFFFL;
            drawn[i] = (z >> by) % 12 < below;
        }
        return drawn;
    }

    private static int standing(boolean[] one, boolean[] other) {
        int n = 0;
        for (int i = 0; i < one.length; i++) {
            n += one[i] || other[i] ? 0 : 1;
        }
        return n;
    }

    private static void drawnByASeed() {
        Due.sentence("by a SEED: z = z * 1103515245 + 12345 (an int; SEED at first) ahead of each: with a RUN it slips,"
                + " if (z >>> 8) % 12 is below SLIPS");
        StonesOver x = Due.lane(1, "100");
        int[] seeds = {0, 1, -1, 5, LEAST, MOST, 123456789, -987654321};
        for (int seed : seeds) {
            for (int slips = 0; slips <= 12; slips += 3) {
                x.mend(0, 3, slips);
                boolean[] slip = happens(seed, 20, 8, slips);
                int stand = standing(slip, new boolean[20]);
                Due.is("seed " + seed + ", " + slips + " of twelve", x.drawn(0, 0, seed, 2010), 11 * stand);
                Due.is("seed " + seed + ", " + slips + " of twelve, the best", x.drawn(0, 0, seed, 2011), stand > 0 ? 11 : 0);
            }
            Due.is("no slip without a run", x.drawn(0, 0, seed, 2000), 220);
        }
        x.mend(0, 3, 0);
        Due.is("0 of twelve", x.drawn(0, 0, 77, 9910), 99 * 11);
        x.mend(0, 3, 12);
        Due.is("twelve of twelve", x.drawn(0, 0, 77, 9910), 0);
        Due.is("twelve of twelve, the best", x.drawn(0, 0, 77, 9911), 0);
        int drawn = (int) ((5L * 1103515245L + 12345 & 0xFFFFFFFFL) >> 8) % 12;
        for (int slips = 0; slips <= 12; slips++) {
            x.mend(0, 3, slips);
            Due.is("a draw of " + drawn + " against " + slips, x.drawn(0, 0, 5, 110), drawn < slips ? 0 : 11);
        }
        Due.law(x, "100-t*10");
        x.mend(0, 8, 0);
        x.mend(0, 3, 6);
        boolean[] slip = happens(5, 9, 8, 6);
        int points = 0;
        for (int i = 0; i < 9; i++) {
            points += slip[i] ? 0 : 10 - i;
        }
        Due.is("a slip tires, too", x.drawn(0, 0, 5, 910), points);
    }

    private static void laughs() {
        Due.sentence("a laugh (both): (z >>> 16) % 12 is below LAUGHS (0 .. 12; 0 at first): nought, too: POINTS together; the best");
        StonesOver x = Due.lane(1, "100");
        Due.is("at first", x.of(0, 12), 0);
        Due.is("mend to 13", x.mend(0, 12, 13), StonesOver.VOID);
        Due.is("mend to -1", x.mend(0, 12, -1), StonesOver.VOID);
        x.mend(0, 3, 5);
        int[] seeds = {0, -1, LEAST, MOST, 99999};
        for (int seed : seeds) {
            for (int laughs = 0; laughs <= 12; laughs += 2) {
                x.mend(0, 12, laughs);
                boolean[] laugh = happens(seed, 20, 16, laughs);
                int without = standing(laugh, new boolean[20]);
                int with = standing(laugh, happens(seed, 20, 8, 5));
                Due.is("seed " + seed + ", " + laughs + ", without a run", x.drawn(0, 0, seed, 2000), 11 * without);
                Due.is("seed " + seed + ", " + laughs + ", with a run", x.drawn(0, 0, seed, 2010), 11 * with);
                Due.is("seed " + seed + ", " + laughs + ", the best", x.drawn(0, 0, seed, 2001), without > 0 ? 11 : 0);
            }
        }
        Due.is("twelve of twelve", x.drawn(0, 0, 3, 9900), 0);
        Due.is("twelve of twelve, the best", x.drawn(0, 0, 3, 9901), 0);
        int drawn = (int) ((5L * 1103515245L + 12345 & 0xFFFFFFFFL) >> 16) % 12;
        for (int laughs = 0; laughs <= 12; laughs++) {
            x.mend(0, 12, laughs);
            Due.is("a draw of " + drawn + " against " + laughs, x.drawn(0, 0, 5, 100), drawn < laughs ? 0 : 11);
        }
        Due.law(x, "100-t*10");
        x.mend(0, 8, 0);
        x.mend(0, 12, 6);
        boolean[] laugh = happens(8, 9, 16, 6);
        int points = 0;
        for (int i = 0; i < 9; i++) {
            points += laugh[i] ? 0 : 10 - i;
        }
        Due.is("a laugh tires, too", x.drawn(0, 0, 8, 900), points);
    }
}
