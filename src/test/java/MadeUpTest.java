/** The document's rows on how the numbers that calls are told are made up: how, sk, part, sr, xr, xn, nr, sa, nw. */
public final class MadeUpTest {
    private static final int[] COUNTS = {0, 1, 9, 10, 50, 99};

    public static void main(String[] args) {
        ask();
        Due.close("MadeUpTest");
    }

    static void ask() {
        how();
        stoneAndAhead();
        stoneAndAheadOfOthers();
        setAndRule();
        pointsAndRun();
        pointsAndTries();
        stonesAndRule();
        spitterAndAngle();
        triesRunAndWhat();
    }

    /** STONE 0 has SIZE 1, and so on; nothing rolls, and only what LANDS at 999 is in the barrel. */
    private static StonesOver stones(String law) {
        StonesOver x = Due.lane(1, law);
        for (int stone = 0; stone < 9; stone++) {
            x.mend(stone, 5, stone + 1);
        }
        x.mend(0, 8, 0);
        x.mend(0, 9, 999);
        x.mend(0, 10, 0);
        return x;
    }

    private static void how() {
        Due.sentence("---- spitters, stones (how: 10 times the angle, and the RUN;");
        StonesOver x = stones("a*100+p*10");
        for (int angle = 0; angle < 9; angle++) {
            for (int run = 0; run <= 1; run++) {
                int how = 10 * angle + run;
                Due.is("tries, how " + how, x.tries(0, 0, how, 0), 100 * angle + 90 + 30 * run);
                Due.is("spit, how " + how, x.spit(0, 0, how), 10 * angle + 9 + 3 * run);
            }
        }
        int[] none = {-1, -10, 2, 9, 12, 82, 89, 90, 91, 100, Integer.MAX_VALUE, Integer.MIN_VALUE};
        for (int how : none) {
            Due.is("tries, how " + how, x.tries(0, 0, how, 0), -1);
            Due.is("spit, how " + how, x.spit(0, 0, how), -1);
        }
    }

    private static void stoneAndAhead() {
        Due.sentence("sk: 1000 times the STONE, and k; part 0 above, 1 below the line; Long.MIN_VALUE: BAD)");
        for (int ahead : COUNTS) {
            StonesOver x = stones("a=3?z*100-t;0");
            for (int stone = 0; stone < 9; stone++) {
                int sk = 1000 * stone + ahead;
                int lands = 100 * (stone + 1) - ahead;
                int points = lands / 10;
                Due.is("tries of " + sk, x.tries(0, sk, 30, 0), lands);
                Due.is("risk of " + sk + " to have more than " + (points - 1), x.risk(0, sk, 10 * (points - 1), 0),
                        points > 0 ? 1 : Long.MIN_VALUE);
                Due.is("risk of " + sk + " to have more than " + points, x.risk(0, sk, 10 * points, 0), 0);
                Due.is("risks of " + sk + ", one try, more than " + (points - 1), x.risks(0, sk, 10 * (points - 1) + 1, 0),
                        points > 0 ? 1 : Long.MIN_VALUE);
                Due.is("risks of " + sk + ", one try", x.risks(0, sk, 10 * points + 1, 0), 0);
                Due.is("risks of " + sk + ", nine tries", x.risks(0, sk, 10 * points + 9, 0), 0);
                Due.is("practice of " + sk, x.practice(0, sk, points, 0), 0);
                Due.is("practice of " + sk, x.practice(0, sk, points + 1, 0), -2);
                Due.is("drawn of " + sk, x.drawn(0, sk, 0, 100), points);
                Due.is("two drawn of " + sk, x.drawn(0, sk, 0, 200), points + (lands - 1) / 10);
                Due.is("order of that stone", x.order(0, 10 << stone, ahead, -1), points);
            }
        }
    }

    private static void stoneAndAheadOfOthers() {
        Due.sentence("BEST ANGLE without a RUN for STOPS");
        for (int ahead : COUNTS) {
            StonesOver x = stones("a=(z+t)%9?500;100");
            x.mend(0, 3, 12);
            for (int stone = 0; stone < 9; stone++) {
                int sk = 1000 * stone + ahead;
                int angle = (stone + 1 + ahead) % 9;
                Due.is("angle for STOPS of " + sk, x.angle(0, sk, 0), angle);
                Due.is("angle for POINTS of " + sk, x.angle(0, sk, 1), angle);
                Due.is("angle of all of " + sk, x.angle(0, sk, 2), 10 * angle);
            }
            Due.law(x, "z=5&t=" + (ahead + 1) + "?500;100");
            for (int stone = 0; stone < 9; stone++) {
                Due.is("risks of two tries, stone " + stone, x.risks(0, 1000 * stone + ahead, 10 * 49 + 2, 0), stone == 4 ? 1 : 0);
                Due.is("risks of one try, stone " + stone, x.risks(0, 1000 * stone + ahead, 10 * 49 + 1, 0), 0);
            }
        }
    }

    private static void setAndRule() {
        Due.sentence("ORDER (sr: 10 times the set, and rule 0 the best, 1 together; k ahead)");
        StonesOver x = stones("z*100");
        int[] sets = {0, 1, 2, 3, 5, 127, 254, 256, 257, 448, 508};
        for (int set : sets) {
            int best = 0, together = 0;
            for (int stone = 0; stone < 9; stone++) {
                if ((set >> stone & 1) != 0) {
                    best = 10 * (stone + 1);
                    together += 10 * (stone + 1);
                }
            }
            Due.is("the best of set " + set, x.order(0, 10 * set, 0, -1), best);
            Due.is("set " + set + " together", x.order(0, 10 * set + 1, 0, -1), together);
            for (int rule = 2; rule <= 9; rule++) {
                Due.is("set " + set + ", rule " + rule, x.order(0, 10 * set + rule, 0, -1), -1);
            }
        }
    }

    private static void pointsAndRun() {
        Due.sentence("RISK of one try (xr: 10 x, and the RUN)");
        StonesOver x = stones("p*10");
        x.mend(0, 3, 3);
        int[] points = {0, 5, 8, 9, 11, 12, 100, 999};
        for (int p : points) {
            Due.is("without, more than " + p, x.risk(0, 0, 10 * p, 0) * 10 + x.risk(0, 0, 10 * p, 1), p < 9 ? 11 : 1);
            Due.is("with a run, more than " + p, x.risk(0, 0, 10 * p + 1, 0) * 10 + x.risk(0, 0, 10 * p + 1, 1), p < 12 ? 34 : 1);
            for (int run = 2; run <= 9; run++) {
                Due.is("a run of " + run, x.risk(0, 0, 10 * p + run, 0), Long.MIN_VALUE);
            }
        }
    }

    private static void pointsAndTries() {
        Due.sentence("RISK of n tries (xn: 10 x and n)");
        StonesOver x = stones("p*10");
        x.mend(0, 3, 6);
        for (int n = 1; n <= 9; n++) {
            Due.is(n + " tries, more than 8", x.risks(0, 0, 80 + n, 1), 1);
            Due.is(n + " tries, more than 9", x.risks(0, 0, 90 + n, 1), 1 << n);
            Due.is(n + " tries, more than 9", x.risks(0, 0, 90 + n, 0), (1 << n) - 1);
            Due.is(n + " tries, more than 12", x.risks(0, 0, 120 + n, 0), 0);
            Due.is(n + " tries, more than 999", x.risks(0, 0, 9990 + n, 0), 0);
        }
    }

    private static void stonesAndRule() {
        Due.sentence("---- matches (a ROW of SPITTERS on a SHELF; nr: 10 n, and the rule)");
        StonesOver x = stones("z*100-t*10+p*10-90");
        x.spitter(9, 9);
        x.mend(0, 2, 0);
        x.mend(1, 2, 2);
        Due.row(x, 3, 0, 1, 0);
        // The first of the row has 9 more each, and then two less for each that it has spat.
        int one = 0, other = 0;
        for (int n = 1; n <= 9; n++) {
            int latest = 10 * n + 9 - 2 * (n - 1);
            Due.is("the best of " + n, x.match(3, 10 * n, 1), 10 * n);
            Due.is("the other's best of " + n, x.match(3, 10 * n, 0), latest);
            other += 10 * n;
            one += latest;
            Due.is(n + " together", x.match(3, 10 * n + 1, 1), other);
            Due.is("the other's " + n + " together", x.match(3, 10 * n + 1, 0), one);
            Due.is("who has the best of " + n, x.winner(3, 10 * n), n >= 6 ? 0 : 1);
            Due.is("who has most of " + n, x.winner(3, 10 * n + 1), other > one ? 0 : 1);
            for (int rule = 2; rule <= 9; rule++) {
                Due.is("rule " + rule, x.winner(3, 10 * n + rule), -1);
            }
        }
    }

    private static void spitterAndAngle() {
        Due.sentence("JUDGED (sa: 10 times the SPITTER, and the angle)");
        StonesOver x = new StonesOver();
        for (int i = 0; i < 6; i++) {
            x.spitter(i + 1, 0);
        }
        Due.law(x, "p*100+a*10");
        x.mend(0, 8, 0);
        x.mend(0, 10, 0);
        x.mend(0, 9, 999);
        Due.row(x, 2, 1, 0);
        for (int spitter = 0; spitter < 6; spitter++) {
            for (int angle = 0; angle < 9; angle++) {
                int sa = 10 * spitter + angle;
                x.put(2, 0, 100 * (spitter + 1) + 10 * angle);
                Due.is("judge, sa " + sa, x.judge(2, sa), -2);
                Due.is("ahead, sa " + sa, x.ahead(2, sa), 0);
                Due.is("who, sa " + sa, x.who(2, 1), sa);
                Due.is("judge, not sa " + sa, x.judge(2, (sa + 10) % 60), 0);
                Due.is("ahead, not sa " + sa, x.ahead(2, 10 * spitter + (angle + 1) % 9), -2);
            }
            Due.is("angle 9", x.judge(2, 10 * spitter + 9), -1);
            Due.is("angle 9", x.ahead(2, 10 * spitter + 9), -1);
        }
    }

    private static void triesRunAndWhat() {
        Due.sentence("DRAWN (nw: 100 n, and 10 the RUN, and 0 POINTS together, 1 the best)");
        StonesOver x = stones("p*10-t");
        int[] ns = {1, 2, 9, 10, 98, 99};
        for (int n : ns) {
            int without = 0, with = 0;
            for (int i = 0; i < n; i++) {
                without += Math.max(0, 90 - i) / 10;
                with += (120 - i) / 10;
            }
            Due.is(n + " without, together", x.drawn(0, 0, 1, 100 * n), without);
            Due.is(n + " without, the best", x.drawn(0, 0, 1, 100 * n + 1), 9);
            Due.is(n + " with a run, together", x.drawn(0, 0, 1, 100 * n + 10), with);
            Due.is(n + " with a run, the best", x.drawn(0, 0, 1, 100 * n + 11), 12);
            for (int run = 0; run <= 9; run++) {
                Due.is("a run of " + run + ", what 2", x.drawn(0, 0, 1, 100 * n + 10 * run + 2), -1);
                if (run > 1) {
                    Due.is("a run of " + run, x.drawn(0, 0, 1, 100 * n + 10 * run), -1);
                }
            }
        }
    }
}
