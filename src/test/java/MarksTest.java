/** Promises 19 to 24: steps, marks in the lane, matches by draws. */
public final class MarksTest {
    public static void main(String[] args) {
        stepsMeasure();
        whoseSteps();
        marksJudged();
        marksOfMoreThanNine();
        whoAtWhich();
        aheadBeforeTheMarks();
        refusals();
        drawsOfSlips();
        drawsOfLaughs();
        drawsRefuse();
        Due.close("MarksTest");
    }

    private static void stepsMeasure() {
        StonesOver x = new StonesOver();
        Due.is("nobody", x.steps(0, 5), -1);
        x.spitter(1, 1);
        x.spitter(1, 1);
        x.mend(1, 4, 7);
        Due.is("steps(0, 99)", x.steps(0, 99), 9);
        Due.is("steps(1, 99)", x.steps(1, 99), 14);
        Due.is("steps(1, 6)", x.steps(1, 6), 0);
        Due.is("steps(1, 0)", x.steps(1, 0), 0);
        Due.is("steps(1, 999)", x.steps(1, 999), 142);
        Due.is("steps(1, 1000)", x.steps(1, 1000), -1);
        Due.is("steps(1, -1)", x.steps(1, -1), -1);
        Due.is("steps(2, 5)", x.steps(2, 5), -1);
        Due.is("steps(-1, 5)", x.steps(-1, 5), -1);
    }

    private static void whoseSteps() {
        StonesOver x = new StonesOver();
        Due.is("nobody's", x.whose(10, 1), 0);
        int[] steps = {10, 7, 1, 20, 9, 8};
        for (int i = 0; i < 6; i++) {
            x.spitter(1, 1);
            x.mend(i, 4, steps[i]);
        }
        Due.is("whose(100, 10)", x.whose(100, 10), 1);
        Due.is("whose(99, 14)", x.whose(99, 14), 2);
        Due.is("whose(100, 100)", x.whose(100, 100), 4);
        Due.is("whose(19, 2)", x.whose(19, 2), 2 + 16 + 32);
        Due.is("whose(0, 0)", x.whose(0, 0), 63);
        Due.is("whose(100, 13)", x.whose(100, 13), 0);
        Due.is("whose(999, 999)", x.whose(999, 999), 4);
        Due.is("whose(1000, 1)", x.whose(1000, 1), -1);
        Due.is("whose(-1, 1)", x.whose(-1, 1), -1);
        Due.is("whose(1, 1000)", x.whose(1, 1000), -1);
        Due.is("whose(1, -1)", x.whose(1, -1), -1);
    }

    /** By this law STONES 0 .. 8 land at 100 by angle, and SIZE, less what is ahead. */
    private static StonesOver two() {
        StonesOver x = new StonesOver();
        x.spitter(5, 4);
        x.spitter(5, 5);
        for (int stone = 0; stone < 9; stone++) {
            x.mend(stone, 5, stone + 1);
        }
        x.mend(0, 8, 0);
        Due.law(x, "a*100+p*2+z*4-t");
        return x;
    }

    private static void marksJudged() {
        StonesOver x = two();
        // Angle 1, p 9: 118 and 4 z, less 0, 1, 2 ..: 122, 125, 128.
        Due.row(x, 0, 1, 122, 125, 128);
        Due.is("all so", x.judge(0, 1), -2);
        Due.is("not at another angle", x.judge(0, 2), 0);
        Due.is("not another's", x.judge(0, 11), 0);
        x.put(0, 2, 127);
        Due.is("the third not", x.judge(0, 1), 2);
        x.put(0, 1, -1);
        Due.is("the second not", x.judge(0, 1), 1);
        Due.row(x, 0, 1);
        Due.is("no marks", x.judge(0, 1), -2);
        x.mend(0, 8, 999);
        Due.row(x, 0, 1, 134, 137);
        Due.is("where they stopped, not landed", x.judge(0, 1), -2);
    }

    private static void marksOfMoreThanNine() {
        StonesOver x = two();
        x.row(0, 1, 60);
        for (int i = 0; i < 60; i++) {
            x.put(0, i, 320 + (i % 9 + 1) * 4 - i);
        }
        Due.is("sixty of another", x.judge(0, 13), -2);
        Due.is("sixty, not the first one's", x.judge(0, 3), 0);
        x.put(0, 59, 0);
        Due.is("the sixtieth not", x.judge(0, 13), 59);
        x.put(0, 9, 320 + 10 * 4 - 9);
        Due.is("the tenth stone is the first again", x.judge(0, 13), 9);
    }

    private static void whoAtWhich() {
        StonesOver x = two();
        Due.row(x, 0, 1, 320 + 4);
        Due.is("one only", x.who(0, 0), 1);
        Due.is("that one", x.who(0, 1), 13);
        x.mend(0, 1, 5);
        Due.is("either", x.who(0, 0), 2);
        Due.is("the first", x.who(0, 1), 3);
        Due.law(x, "324");
        Due.is("all, at each angle", x.who(0, 0), 18);
        Due.is("the first", x.who(0, 1), 0);
        x.put(0, 0, 5);
        Due.is("none", x.who(0, 0), 0);
        Due.is("none", x.who(0, 1), -2);
        Due.is("what 2", x.who(0, 2), -1);
        Due.is("what -1", x.who(0, -1), -1);
    }

    private static void aheadBeforeTheMarks() {
        StonesOver x = two();
        Due.row(x, 0, 1, 122 - 7, 125 - 7, 128 - 7);
        Due.is("seven", x.ahead(0, 1), 7);
        Due.is("nine for the other", x.ahead(0, 11), 9);
        Due.is("not at another angle", x.ahead(0, 0), -2);
        x.mend(0, 2, 0);
        Due.is("who does not tire", x.ahead(0, 1), -2);
        Due.row(x, 0, 1);
        Due.is("no marks: the least", x.ahead(0, 1), 0);
        Due.row(x, 0, 1, 224 - 99);
        Due.is("ninety-nine", x.ahead(0, 12), 99);
        Due.row(x, 0, 1, 224 - 100);
        Due.is("a hundred", x.ahead(0, 12), -2);
    }

    private static void refusals() {
        StonesOver x = two();
        Due.is("judge, nothing", x.judge(0, 0), -11);
        Due.is("who, nothing", x.who(0, 0), -11);
        Due.is("ahead, nothing", x.ahead(0, 0), -11);
        Due.row(x, 0, 0, 1);
        Due.is("judge, bytes", x.judge(0, 0), -12);
        Due.is("who, bytes", x.who(0, 0), -12);
        Due.is("ahead, bytes", x.ahead(0, 0), -12);
        int[] sas = {-1, 9, 19, 20, Integer.MAX_VALUE, Integer.MIN_VALUE};
        for (int sa : sas) {
            Due.is("judge of sa " + sa, x.judge(0, sa), -1);
            Due.is("ahead of sa " + sa, x.ahead(0, sa), -1);
        }
        Due.is("judge on 6", x.judge(6, 0), -1);
        Due.is("who on -1", x.who(-1, 0), -1);
        Due.is("ahead on 6", x.ahead(6, 0), -1);
    }

    private static void drawsOfSlips() {
        StonesOver x = two();
        Due.law(x, "100-t*10");
        // A slip is nought, but the next try is one more tired all the same.
        int z = 5;
        int all = 0, best = 0;
        for (int i = 0; i < 8; i++) {
            z = z * 1103515245 + 12345;
            int points = (z >>> 8) % 12 < 6 ? 0 : 10 - i;
            all += points;
            best = Math.max(best, points);
        }
        x.mend(0, 3, 6);
        Due.is("the first draw by hand: 1222621274 by 256, of twelve", (5 * 1103515245 + 12345 >>> 8) % 12, 4775864 % 12);
        Due.is("with a run", x.drawn(0, 0, 5, 810), all);
        Due.is("the best with a run", x.drawn(0, 0, 5, 811), best);
        Due.is("without", x.drawn(0, 0, 5, 800), 10 + 9 + 8 + 7 + 6 + 5 + 4 + 3);
        Due.is("the best without", x.drawn(0, 0, 5, 801), 10);
        Due.is("four ahead", x.drawn(0, 4, 5, 300), 6 + 5 + 4);
        x.mend(0, 3, 12);
        Due.is("always slips", x.drawn(0, 0, 5, 9911), 0);
        x.mend(0, 3, 0);
        Due.is("never slips", x.drawn(0, 0, -5, 210), 19);
    }

    private static void drawsOfLaughs() {
        StonesOver x = two();
        Due.law(x, "100+p-9");
        x.mend(0, 12, 5);
        int z = -77;
        int laughs = 0;
        for (int i = 0; i < 99; i++) {
            z = z * 1103515245 + 12345;
            laughs += (z >>> 16) % 12 < 5 ? 1 : 0;
        }
        Due.is("with laughs", x.drawn(0, 3000, -77, 9900), 10 * (99 - laughs));
        Due.is("a run, with laughs", x.drawn(0, 3000, -77, 9910), 10 * (99 - laughs));
        x.mend(0, 12, 12);
        Due.is("always laughs", x.drawn(0, 3000, -77, 9900), 0);
        Due.is("no deed", x.led(0, 3), 0);
        x.mend(0, 12, 0);
        Due.law(x, "p=12?300;a*10");
        Due.is("best angle", x.drawn(0, 0, 0, 100), 8);
        Due.is("by the run", x.drawn(0, 0, 0, 110), 30);
    }

    private static void drawsRefuse() {
        StonesOver x = two();
        int[] nws = {-1, 0, 99, 102, 120, 199, 9912, 9920, 10000, Integer.MAX_VALUE, Integer.MIN_VALUE};
        for (int nw : nws) {
            Due.is("nw " + nw, x.drawn(0, 0, 1, nw), -1);
        }
        Due.is("no such spitter", x.drawn(2, 0, 1, 100), -1);
        Due.is("no such stone", x.drawn(0, 9000, 1, 100), -1);
        Due.is("no such k", x.drawn(0, 100, 1, 100), -1);
    }
}
