import java.util.ArrayList;
import java.util.List;

/**
 * The document's KINDS and BODIES of acts, one by one. What a BODY answers is set beside what the acts that it
 * calls answer, and its TRACE beside theirs, so that a wrong BODY is told by its own sentence.
 */
public final class ActsBoundsTest {
    private static final int SPITS = 0, LANDS = 1, ROLLS = 2, TELLS = 3;
    private static final int[] XS = {Integer.MIN_VALUE, Integer.MIN_VALUE + 1, -1000, -1, 0, 1, 2, 7, 0x40000000,
        Integer.MAX_VALUE - 1, Integer.MAX_VALUE};

    /** Forty TRIES, five of each KIND: the TRY of a number is of the KIND number % 8. */
    private static StonesOver x;

    public static void main(String[] args) {
        ask();
        Due.close("ActsBoundsTest");
    }

    static void ask() {
        kinds();
        ofTry();
        ofWetAndSmall();
        ofRollingAndGrass();
        ofRunAndSlip();
        ofBarrel();
        ownAndAbove();
    }

    private static void anew() {
        x = new StonesOver();
        for (int n = 0; n < 40; n++) {
            x.body(n % 8);
        }
    }

    private static void kind(String sentence, int kind, int... above) {
        Due.sentence(sentence);
        StonesOver one = new StonesOver();
        one.body(kind);
        one.keep(0, 0);
        for (int k = 0; k < 8; k++) {
            boolean isUnder = k == kind;
            for (int each : above) {
                isUnder |= k == each;
            }
            Due.is("a TRY of KIND " + kind + " taken for " + k, one.taken(0, k), isUnder ? kind : -12);
        }
    }

    private static void kinds() {
        kind("of KINDS: 0 TRY;", 0);
        kind("1 WET under TRY;", 1, 0);
        kind("2 ROLLING under TRY;", 2, 0);
        kind("3 GRASS under ROLLING;", 3, 2, 0);
        kind("4 RUN under WET;", 4, 1, 0);
        kind("5 BARREL under GRASS;", 5, 3, 2, 0);
        kind("6 SMALL under TRY;", 6, 0);
        kind("7 SLIP under RUN.", 7, 4, 1, 0);
    }

    private static int act(int n, int act, int v) {
        anew();
        return x.act(n, act, v);
    }

    /** The bodies that run in an act, each told by trace(). */
    private static List<Integer> ran(int n, int act, int v) {
        act(n, act, v);
        List<Integer> ran = new ArrayList<>();
        for (int i = 0; i < x.count(4); i++) {
            ran.add(x.trace(i));
        }
        return ran;
    }

    private static List<Integer> row(Integer... bodies) {
        return List.of(bodies);
    }

    @SafeVarargs
    private static List<Integer> joined(List<Integer>... rows) {
        List<Integer> all = new ArrayList<>();
        for (List<Integer> each : rows) {
            all.addAll(each);
        }
        return all;
    }

    private static void due(int n, int act, int v, int want, List<Integer> bodies) {
        String call = "a TRY of KIND " + n % 8 + ": act(" + n + ", " + act + ", " + v + ")";
        Due.is(call, act(n, act, v), want);
        Due.is(call + ", how many ran", x.count(4), bodies.size());
        for (int i = 0; i < bodies.size(); i++) {
            Due.is(call + ", trace(" + i + ")", x.trace(i), bodies.get(i));
        }
        Due.is(call + ", no more", x.trace(bodies.size()), -1);
    }

    private static void ofTry() {
        Due.sentence("SPITS (an interface of TRY): 1 spits: x + n");
        int[] plain = {0, 2, 3, 5};
        for (int v : XS) {
            for (int kind : plain) {
                for (int n = kind; n < 40; n += 8) {
                    due(n, SPITS, v, v + n, row(1));
                }
            }
        }
        Due.sentence("TRY: 10 lands: spits(x) * 2");
        int[] landing = {0, 1, 4, 6};
        for (int v : XS) {
            for (int kind : landing) {
                for (int n = kind; n < 40; n += 8) {
                    due(n, LANDS, v, act(n, SPITS, v) * 2, joined(row(10), ran(n, SPITS, v)));
                }
            }
        }
        Due.sentence("11 rolls: x ^ n");
        int[] rolling = {0, 1, 2, 6};
        for (int v : XS) {
            for (int kind : rolling) {
                for (int n = kind; n < 40; n += 8) {
                    due(n, ROLLS, v, v ^ n, row(11));
                }
            }
        }
        Due.sentence("TELLS (of TRY): 2 tells: lands(x) - rolls(1)");
        int[] telling = {0, 1, 2, 3, 4, 6};
        for (int v : XS) {
            for (int kind : telling) {
                for (int n = kind; n < 40; n += 8) {
                    due(n, TELLS, v, act(n, LANDS, v) - act(n, ROLLS, 1),
                            joined(row(2), ran(n, LANDS, v), ran(n, ROLLS, 1)));
                }
            }
        }
    }

    private static void ofWetAndSmall() {
        Due.sentence("WET: 20 spits: super.spits(x) + 3");
        int[] wet = {1, 4, 7};
        for (int v : XS) {
            for (int kind : wet) {
                for (int n = kind; n < 40; n += 8) {
                    due(n, SPITS, v, v + n + 3, row(20, 1));
                }
            }
        }
        Due.sentence("SMALL: 70 spits: super.spits(x) * 2");
        for (int v : XS) {
            for (int n = 6; n < 40; n += 8) {
                due(n, SPITS, v, (v + n) * 2, row(70, 1));
            }
        }
    }

    private static void ofRollingAndGrass() {
        Due.sentence("ROLLING: 30 lands: -super.lands(x)");
        for (int v : XS) {
            for (int n = 2; n < 40; n += 8) {
                due(n, LANDS, v, -(act(n, SPITS, v) * 2), joined(row(30, 10), ran(n, SPITS, v)));
            }
        }
        int[] grass = {3, 5};
        Due.sentence("GRASS: 40 rolls: super.rolls(x) * 3");
        for (int v : XS) {
            for (int kind : grass) {
                for (int n = kind; n < 40; n += 8) {
                    due(n, ROLLS, v, (v ^ n) * 3, row(40, 11));
                }
            }
        }
        Due.sentence("41 lands: super.lands(x + 1)");
        for (int v : XS) {
            for (int kind : grass) {
                for (int n = kind; n < 40; n += 8) {
                    due(n, LANDS, v, -(act(n, SPITS, v + 1) * 2), joined(row(41, 30, 10), ran(n, SPITS, v + 1)));
                }
            }
        }
    }

    private static void ofRunAndSlip() {
        Due.sentence("RUN: 50 rolls: super.rolls(x) - spits(2)");
        int[] run = {4, 7};
        for (int v : XS) {
            for (int kind : run) {
                for (int n = kind; n < 40; n += 8) {
                    due(n, ROLLS, v, (v ^ n) - act(n, SPITS, 2), joined(row(50, 11), ran(n, SPITS, 2)));
                }
            }
        }
        Due.sentence("SLIP: 80 lands: super.lands(x) + rolls(2)");
        for (int v : XS) {
            for (int n = 7; n < 40; n += 8) {
                due(n, LANDS, v, act(n, SPITS, v) * 2 + act(n, ROLLS, 2),
                        joined(row(80, 10), ran(n, SPITS, v), ran(n, ROLLS, 2)));
            }
        }
        Due.sentence("81 tells: super.tells(x) - 1");
        for (int v : XS) {
            for (int n = 7; n < 40; n += 8) {
                due(n, TELLS, v, act(n, LANDS, v) - act(n, ROLLS, 1) - 1,
                        joined(row(81, 2), ran(n, LANDS, v), ran(n, ROLLS, 1)));
            }
        }
    }

    private static void ofBarrel() {
        Due.sentence("BARREL: 60 tells: super.tells(x) ^ 5");
        for (int v : XS) {
            for (int n = 5; n < 40; n += 8) {
                due(n, TELLS, v, (act(n, LANDS, v) - act(n, ROLLS, 1)) ^ 5,
                        joined(row(60, 2), ran(n, LANDS, v), ran(n, ROLLS, 1)));
            }
        }
    }

    private static void ownAndAbove() {
        Due.sentence("spits(..) and so on: the body of its own KIND, or of the next KIND above that has one;"
                + " super: from the KIND above the body's on");
        due(7, SPITS, 7, 17, row(20, 1));
        due(7, ROLLS, 2, (2 ^ 7) - 12, row(50, 11, 20, 1));
        due(7, LANDS, 7, 17 * 2 - 7, row(80, 10, 20, 1, 50, 11, 20, 1));
        due(7, TELLS, 7, 27 - (6 - 12) - 1, row(81, 2, 80, 10, 20, 1, 50, 11, 20, 1, 50, 11, 20, 1));
        due(5, SPITS, 7, 12, row(1));
        due(5, ROLLS, 7, 6, row(40, 11));
        due(5, LANDS, 7, -26, row(41, 30, 10, 1));
        due(5, TELLS, 7, -38 ^ 5, row(60, 2, 41, 30, 10, 1, 40, 11));
        due(3, TELLS, 7, -22 - 6, row(2, 41, 30, 10, 1, 40, 11));
        due(4, TELLS, 7, 28 - (5 - 9), row(2, 10, 20, 1, 50, 11, 20, 1));
        due(6, TELLS, 7, 52 - 7, row(2, 10, 70, 1, 11));
    }
}
