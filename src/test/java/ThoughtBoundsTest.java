/** The sentences of the document that bound tries in thought, one by one. */
public final class ThoughtBoundsTest {
    private static final long NONE = Long.MIN_VALUE, TWELVE_TO_NINE = 5159780352L;

    public static void main(String[] args) {
        ask();
        Due.close("ThoughtBoundsTest");
    }

    static void ask() {
        howManyAhead();
        bestAngles();
        ordersOfSets();
        ordersOfLikeOnes();
        riskOfOneTry();
        riskOfTries();
        practice();
    }

    private static void howManyAhead() {
        Due.sentence("2 IN THOUGHT, a SPITTER with so many spat ahead (k 0 .. 99): a TRY with a STONE at an angle,"
                + " with a RUN or not (no slip): LANDS, STOPS, POINTS");
        StonesOver x = Due.lane(1, "200-t+p");
        Due.is("k 0", x.tries(0, 0, 0, 0), 209);
        Due.is("k 99", x.tries(0, 99, 0, 0), 110);
        Due.is("k 100", x.tries(0, 100, 0, 0), -1);
        Due.is("k 999", x.tries(0, 999, 0, 0), -1);
        Due.is("k 0 of stone 1", x.tries(0, 1000, 0, 0), 209);
        Due.is("k -1", x.tries(0, -1, 0, 0), -1);
        Due.is("k 99 of stone 8", x.tries(0, 8099, 0, 0), 110);
        Due.is("k 100 of stone 8", x.tries(0, 8100, 0, 0), -1);
        Due.is("stone 9", x.tries(0, 9000, 0, 0), -1);
        Due.is("angle 8 with a run", x.tries(0, 0, 81, 0), 212);
        Due.is("angle 9", x.tries(0, 0, 90, 0), -1);
        Due.is("angle -1", x.tries(0, 0, -10, 0), -1);
        Due.is("a run of 2", x.tries(0, 0, 2, 0), -1);
        Due.is("a run of 9", x.tries(0, 0, 89, 0), -1);
        Due.is("what -1", x.tries(0, 0, 0, -1), -1);
        Due.is("what 3", x.tries(0, 0, 0, 3), -1);
        x.mend(0, 3, 12);
        Due.is("lands, no slip", x.tries(0, 0, 1, 0), 212);
        Due.is("stops, no slip", x.tries(0, 0, 1, 1), 233);
        Due.is("points, no slip", x.tries(0, 0, 1, 2), 23);
        x.mend(0, 12, 12);
        Due.is("points, no laugh", x.tries(0, 0, 1, 2), 23);
        Due.is("no deed", x.led(0, 3), 0);
        Due.is("none spat", x.led(0, 2), 0);
    }

    private static void angles(String law, int forStops, int forPoints, int ofAll) {
        StonesOver x = Due.lane(1, law);
        x.mend(0, 8, 0);
        Due.is("for STOPS by " + law, x.angle(0, 0, 0), forStops);
        Due.is("for POINTS by " + law, x.angle(0, 0, 1), forPoints);
        Due.is("for all by " + law, x.angle(0, 0, 2), ofAll);
    }

    private static void bestAngles() {
        Due.sentence("BEST ANGLE (0 .. 8) for STOPS, for POINTS (of like ones the least)");
        angles("a=0?100;50", 0, 0, 0);
        angles("a=8?100;50", 8, 8, 80);
        angles("100", 0, 0, 0);
        angles("0", 0, 0, 0);
        angles("999", 0, 0, 0);
        angles("a=3|a=5?100;50", 3, 3, 30);
        angles("100+a", 8, 0, 0);
        angles("108+a", 8, 2, 20);
        angles("a=2?395;a=7?420;0", 7, 2, 20);
        angles("a>8|a<0?300;100", 0, 0, 0);
        StonesOver beyond = Due.lane(1, "a>8|a<0?300;100");
        beyond.mend(0, 8, 0);
        Due.row(beyond, 0, 0, 0);
        Due.is("no angle beyond, in an order", beyond.order(0, 11, 0, -1), 10);
        Due.is("no angle beyond, at a risk", beyond.risk(0, 0, 100, 0) + beyond.risk(0, 0, 101, 0), 0);
        Due.is("no angle beyond, at risks", beyond.risks(0, 0, 109, 0), 0);
        Due.is("no angle beyond, in practice", beyond.practice(0, 0, 11, 0), -2);
        Due.is("no angle beyond, in a match", beyond.match(0, 90, 0), 10);
        Due.is("no angle beyond, in draws", beyond.drawn(0, 0, 0, 111), 10);
        Due.sentence("for all angles and both, RUN or not, that for POINTS: 10 times the angle and the RUN (of like ones the least)");
        angles("p=12&a=8?100;50", 0, 0, 81);
        angles("p=12&a=0?100;50", 0, 0, 1);
        angles("p=12?100;50", 0, 0, 1);
        angles("p=9?100;50", 0, 0, 0);
        angles("a=4&p=9|a=4&p=12?100;50", 4, 4, 40);
        angles("a=4&p=9|a=3&p=12?100;50", 4, 4, 31);
        angles("a=4&p=9|a=5&p=12?100;50", 4, 4, 40);
        angles("a=4&p=9?100;a=3&p=12?109;50", 4, 4, 31);
        angles("a=4&p=9?200;p=12?190;50", 4, 4, 40);
        angles("a=8&p=9?200;p=12?199;50", 8, 8, 80);
        angles("a=4&p=9?100;a=8&p=12?110;50", 4, 4, 81);
        StonesOver x = Due.lane(1, "p*10");
        x.mend(0, 3, 12);
        Due.is("no slip in thought", x.angle(0, 0, 2), 1);
    }

    private static void ordersOfSets() {
        Due.sentence("ORDER: a set of STONES (bits; 7 at most, else STATE), spat one after the other from k on,"
                + " each at its BEST ANGLE for POINTS without a RUN");
        StonesOver x = Due.lane(1, "a=4?p*10+z*100-t;0");
        x.mend(0, 8, 0);
        for (int stone = 0; stone < 9; stone++) {
            x.mend(stone, 5, 1);
        }
        for (int stones = 0; stones <= 9; stones++) {
            for (int first = 0; first + stones <= 9; first += 9 - stones > 0 ? 9 - stones : 1) {
                int set = (1 << stones) - 1 << first;
                Due.is(stones + " stones", x.order(0, 10 * set, 0, -1), stones > 7 ? -5 : stones > 0 ? 19 : 0);
                Due.is(stones + " stones, the first", x.order(0, 10 * set, 0, 0), stones > 7 ? -5 : stones > 0 ? first : -2);
                Due.is(stones + " stones, behind the last", x.order(0, 10 * set + 1, 0, stones), stones > 7 ? -5 : -2);
                if (stones > 0) {
                    Due.is(stones + " stones, the last", x.order(0, 10 * set + 1, 0, stones - 1),
                            stones > 7 ? -5 : first + stones - 1);
                }
            }
        }
        Due.is("set 511", x.order(0, 5110, 0, -1), -5);
        Due.is("set 512", x.order(0, 5120, 0, -1), -1);
        Due.is("set -1", x.order(0, -10, 0, -1), -1);
        // 190 less 99 and 190 less 105: the seventh is spat with 105 ahead.
        Due.is("seven from 99 on", x.order(0, 1271, 99, -1), 9 + 9 + 8 + 8 + 8 + 8 + 8);
        Due.is("seven from 0 on", x.order(0, 1271, 0, -1), 19 + 18 + 18 + 18 + 18 + 18 + 18);
        Due.is("k 100", x.order(0, 1271, 100, -1), -1);
        Due.is("k -1", x.order(0, 1271, -1, -1), -1);
        x.mend(0, 3, 12);
        x.mend(0, 12, 12);
        Due.is("no slip, no laugh", x.order(0, 10, 0, -1), 19);
        Due.is("no slip, no laugh", x.order(0, 31, 0, -1), 37);
    }

    private static void ordersOfLikeOnes() {
        Due.sentence("in which order all POINTS together are most, in which the best one is (of like ones the first by numbers):"
                + " that; the i-th STONE");
        StonesOver x = Due.lane(1, "z=1&t=0?100;z=2&t=1?100;z=3&t=2?100;z=4&t<2?300;50");
        x.mend(0, 8, 0);
        int[] sizes = {3, 2, 1, 5, 6, 7, 8, 9, 4};
        for (int stone = 0; stone < 9; stone++) {
            x.mend(stone, 5, sizes[stone]);
        }
        // Of 0, 1, 2 only 2, 1, 0 has 10 thrice.
        Due.is("all", x.order(0, 71, 0, -1), 30);
        Due.is("all, first", x.order(0, 71, 0, 0), 2);
        Due.is("all, second", x.order(0, 71, 0, 1), 1);
        Due.is("all, third", x.order(0, 71, 0, 2), 0);
        Due.is("all, fourth", x.order(0, 71, 0, 3), -2);
        // The best one is 10 in 0, 1, 2 already, by the second.
        Due.is("best", x.order(0, 70, 0, -1), 10);
        Due.is("best, first", x.order(0, 70, 0, 0), 0);
        Due.is("best, second", x.order(0, 70, 0, 1), 1);
        Due.is("best, third", x.order(0, 70, 0, 2), 2);
        // 3 and 8: 8 has 30 first or second: the first by numbers is 3, 8.
        Due.is("like ones", x.order(0, 2641, 0, -1), 35);
        Due.is("like ones, first", x.order(0, 2641, 0, 0), 3);
        Due.is("like ones, second", x.order(0, 2641, 0, 1), 8);
        // 3, 4 and 8: 8 must not be third.
        Due.is("first of the rest", x.order(0, 2800, 0, 0), 3);
        Due.is("then", x.order(0, 2800, 0, 1), 8);
        Due.is("last", x.order(0, 2800, 0, 2), 4);
        Due.is("i far", x.order(0, 2800, 0, Integer.MAX_VALUE), -2);
        Due.is("i -2", x.order(0, 2800, 0, -2), -1);
        Due.is("i far below", x.order(0, 2800, 0, Integer.MIN_VALUE), -1);
        Due.law(x, "0");
        Due.is("nothing to have", x.order(0, 1271, 0, -1), 0);
        for (int i = 0; i < 7; i++) {
            Due.is("by numbers", x.order(0, 10 * (508 - 256 + 2) + i % 2, 0, i), i + 1);
        }
    }

    private static void fraction(StonesOver x, int sk, int xr, long above, long below) {
        Due.is("risk(0, " + sk + ", " + xr + ", 0)", x.risk(0, sk, xr, 0), above);
        Due.is("risk(0, " + sk + ", " + xr + ", 1)", x.risk(0, sk, xr, 1), below);
    }

    private static void riskOfOneTry() {
        Due.sentence("RISK: with a STONE, from k on: POINTS x (0 .. 999) must be beaten (more): how likely with a RUN, without,"
                + " each at its best angle for POINTS: fractions of twelve in lowest terms");
        StonesOver x = Due.lane(1, "a=8?p*10-t;0");
        x.mend(0, 8, 0);
        fraction(x, 0, 0, 1, 1);
        fraction(x, 0, 80, 1, 1);
        fraction(x, 0, 90, 0, 1);
        fraction(x, 0, 100, 0, 1);
        fraction(x, 0, 111, 1, 1);
        fraction(x, 0, 121, 0, 1);
        fraction(x, 1, 80, 0, 1);
        fraction(x, 1, 70, 1, 1);
        fraction(x, 89, 0, 0, 1);
        fraction(x, 99, 1, 1, 1);
        fraction(x, 0, 9990, 0, 1);
        fraction(x, 0, 9991, 0, 1);
        fraction(x, 0, 10000, NONE, NONE);
        fraction(x, 0, 10001, NONE, NONE);
        fraction(x, 0, -1, NONE, NONE);
        fraction(x, 0, -10, NONE, NONE);
        fraction(x, 0, 2, NONE, NONE);
        fraction(x, 100, 0, NONE, NONE);
        int[] above = {1, 11, 5, 3, 2, 7, 1, 5, 1, 1, 1, 1, 0};
        int[] below = {1, 12, 6, 4, 3, 12, 2, 12, 3, 4, 6, 12, 1};
        for (int slips = 0; slips <= 12; slips++) {
            x.mend(0, 3, slips);
            fraction(x, 0, 1, above[slips], below[slips]);
            fraction(x, 0, 111, above[slips], below[slips]);
            fraction(x, 0, 121, 0, 1);
            fraction(x, 0, 80, 1, 1);
            fraction(x, 0, 90, 0, 1);
        }
        Due.law(x, "999");
        x.mend(0, 9, 999);
        x.mend(0, 3, 0);
        fraction(x, 0, 1280, 1, 1);
        fraction(x, 0, 1290, 0, 1);
        Due.law(x, "0");
        fraction(x, 0, 0, 0, 1);
    }

    private static void tries(StonesOver x, int sk, int xn, long above, long below, long run) {
        Due.is("risks(0, " + sk + ", " + xn + ", 0)", x.risks(0, sk, xn, 0), above);
        Due.is("risks(0, " + sk + ", " + xn + ", 1)", x.risks(0, sk, xn, 1), below);
        Due.is("risks(0, " + sk + ", " + xn + ", 2)", x.risks(0, sk, xn, 2), run);
    }

    private static void riskOfTries() {
        Due.sentence("with n tries left (1 .. 9), the same STONE again and again, each time with a RUN or not, whatever is better:"
                + " the greatest chance that some one beats x: a fraction");
        StonesOver x = Due.lane(1, "p*10-t*10");
        x.mend(0, 8, 0);
        x.mend(0, 3, 11);
        // 12, 11, 10 .. with a RUN, 9, 8, 7 .. without.
        tries(x, 0, 80 + 1, 1, 1, 0);
        tries(x, 0, 90 + 1, 1, 12, 1);
        tries(x, 0, 90 + 2, 23, 144, 1);
        tries(x, 0, 90 + 9, 1728 - 1331, 1728, 1);
        tries(x, 0, 110 + 9, 1, 12, 1);
        tries(x, 0, 120 + 9, 0, 1, 0);
        tries(x, 0, 9990 + 9, 0, 1, 0);
        tries(x, 0, 9990 + 1, 0, 1, 0);
        tries(x, 1, 110 + 9, 0, 1, 0);
        tries(x, 99, 0 + 9, 0, 1, 0);
        x.mend(0, 2, 0);
        tries(x, 99, 90 + 9, 2801832661L, TWELVE_TO_NINE, 1);
        x.mend(0, 3, 1);
        tries(x, 99, 90 + 9, TWELVE_TO_NINE - 1, TWELVE_TO_NINE, 1);
        x.mend(0, 3, 0);
        tries(x, 99, 90 + 9, 1, 1, 0);
        tries(x, 99, 90 + 1, 1, 1, 1);
        x.mend(0, 3, 12);
        tries(x, 99, 90 + 9, 0, 1, 0);
        x.mend(0, 3, 6);
        tries(x, 0, 90 + 9, 511, 512, 1);
        tries(x, 0, 90, NONE, NONE, NONE);
        tries(x, 0, 0, NONE, NONE, NONE);
        tries(x, 0, 10000 + 1, NONE, NONE, NONE);
        tries(x, 0, -1, NONE, NONE, NONE);
        tries(x, 100, 91, NONE, NONE, NONE);
        tries(x, 9000, 91, NONE, NONE, NONE);
        Due.is("part -1", x.risks(0, 0, 91, -1), NONE);
        Due.is("part 3", x.risks(0, 0, 91, 3), NONE);
        Due.sentence("whether the first try should be with a RUN (of like chances without)");
        StonesOver like = Due.lane(1, "p=9&t=1?200;p=12?200;100");
        like.mend(0, 8, 0);
        tries(like, 0, 150 + 1, 1, 1, 1);
        tries(like, 0, 150 + 2, 1, 1, 0);
        tries(like, 1, 150 + 1, 1, 1, 0);
        tries(like, 0, 90 + 1, 1, 1, 0);
        tries(like, 0, 200 + 9, 0, 1, 0);
        like.mend(0, 3, 11);
        tries(like, 0, 150 + 1, 1, 12, 1);
        tries(like, 0, 150 + 2, 1, 1, 0);
        like.mend(0, 3, 12);
        tries(like, 0, 150 + 1, 0, 1, 0);
    }

    private static void practice() {
        Due.sentence("PRACTICE: the least SKILL (0 .. 9) by which a TRY at its best angle has POINTS of at least x; MOUTH likewise; NOT");
        StonesOver x = Due.lane(1, "a=8?p*10-t;0");
        x.mend(0, 8, 0);
        x.mend(0, 0, 3);
        // POINTS are p: 3 and the SKILL; MOUTH and 4.
        int[] skills = {0, 0, 0, 0, 1, 2, 3, 4, 5, 6, 7, 8, 9, -2};
        int[] mouths = {1, 1, 1, 1, 1, 1, 2, 3, 4, 5, 6, 7, 8, 9, -2};
        for (int i = 0; i < skills.length; i++) {
            Due.is("the skill for " + i, x.practice(0, 0, i, 0), skills[i]);
        }
        for (int i = 0; i < mouths.length; i++) {
            Due.is("the mouth for " + i, x.practice(0, 0, i, 1), mouths[i]);
        }
        Due.is("tired by one, the skill for 12", x.practice(0, 1, 12, 0), -2);
        Due.is("tired by one, the skill for 11", x.practice(0, 1, 11, 0), 9);
        Due.is("the skill for 999", x.practice(0, 0, 999, 0), -2);
        Due.is("the mouth for 999", x.practice(0, 0, 999, 1), -2);
        Due.is("the skill for 1000", x.practice(0, 0, 1000, 0), -1);
        Due.is("the mouth for -1", x.practice(0, 0, -1, 1), -1);
        Due.is("what 2", x.practice(0, 0, 5, 2), -1);
        Due.is("what -1", x.practice(0, 0, 5, -1), -1);
        Due.is("k 100", x.practice(0, 100, 5, 0), -1);
        Due.law(x, "p=3?300;p=12?200;100");
        Due.is("the least, though more is no better", x.practice(0, 0, 30, 0), 0);
        Due.is("no run", x.practice(0, 0, 20, 0), 0);
        Due.law(x, "p=15?300;100");
        Due.is("no skill with a run", x.practice(0, 0, 30, 0), -2);
        Due.law(x, "p=13?300;p=14?300;100");
        Due.is("the greatest mouth", x.practice(0, 0, 30, 1), 9);
        Due.law(x, "p=4?300;100");
        Due.is("no mouth of 0", x.practice(0, 0, 30, 1), -2);
        Due.is("skill 1", x.practice(0, 0, 30, 0), 1);
        Due.law(x, "999");
        x.mend(0, 9, 999);
        Due.is("the most of all", x.practice(0, 0, 129, 0), 0);
        Due.is("more than that", x.practice(0, 0, 130, 0), -2);
    }
}
