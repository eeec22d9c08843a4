/** The sentences of the document that bound SPITTERS, STONES and the lane, one by one. */
public final class LaneBoundsTest {
    private static final int VOID = StonesOver.VOID, LEAST = Integer.MIN_VALUE, MOST = Integer.MAX_VALUE;

    public static void main(String[] args) {
        ask();
        Due.close("LaneBoundsTest");
    }

    static void ask() {
        spitters();
        numbersOfSpitters();
        numbersOfStones();
        numbersOfTheLane();
        landsAndRolls();
        inTheBarrel();
        hitsTheHen();
        points();
    }

    private static void spitters() {
        Due.sentence("SPITTERS 0 .. 5, as they come");
        StonesOver x = new StonesOver();
        for (int i = 0; i < 6; i++) {
            Due.is("of(" + i + ", 0) ahead of its coming", x.of(i, 0), VOID);
            Due.is("tries of " + i + " ahead of its coming", x.tries(i, 0, 0, 0), -1);
            Due.is("the one that comes", x.spitter(i + 1, i), i);
            Due.is("of(" + i + ", 0)", x.of(i, 0), i + 1);
            Due.is("of(" + i + ", 1)", x.of(i, 1), i);
        }
        Due.is("one more", x.spitter(9, 9), -3);
        Due.is("of(6, 0)", x.of(6, 0), VOID);
        Due.is("of(-1, 0)", x.of(-1, 0), VOID);
        Due.is("tries of 6", x.tries(6, 0, 0, 0), -1);
        Due.is("tries of 5", x.tries(5, 0, 0, 0), 11 * 5 * 2 - 12);
        Due.is("tries of 0", x.tries(0, 0, 40, 0), 1 * 9 * 2 - 12);
    }

    /** A number of mend() takes its least, its greatest and all between, and nothing beyond. */
    private static void within(int number, int what, int first, int least, int most) {
        StonesOver x = Due.lane(2, "");
        String call = "(" + number + ", " + what;
        Due.is("at first of" + call + ")", x.of(number, what), first);
        int[] beyond = {least - 1, most + 1, least - 256, most + 256, LEAST, MOST};
        for (int v : beyond) {
            Due.is("mend" + call + ", " + v + ")", x.mend(number, what, v), VOID);
            Due.is("of" + call + ") as it was", x.of(number, what), first);
        }
        int now = first;
        for (int v = least; v <= most; v += most - least > 40 && v > least && v < most - 24 ? 23 : 1) {
            Due.is("mend" + call + ", " + v + ")", x.mend(number, what, v), now);
            Due.is("of" + call + ")", x.of(number, what), v);
            now = v;
        }
        Due.is("the greatest of" + call + ")", now, most);
        for (int v : beyond) {
            Due.is("mend" + call + ", " + v + ")", x.mend(number, what, v), VOID);
            Due.is("of" + call + ") as it was", x.of(number, what), most);
        }
        Due.is("mend" + call + ", " + least + ")", x.mend(number, what, least), most);
    }

    private static void numbersOfSpitters() {
        Due.sentence("MOUTH (1 .. 9)");
        within(1, 0, 5, 1, 9);
        Due.sentence("SKILL (0 .. 9)");
        within(1, 1, 4, 0, 9);
        Due.sentence("TIRES (0 .. 9; 1 at first)");
        within(0, 2, 1, 0, 9);
        within(1, 2, 1, 0, 9);
        StonesOver x = Due.lane(2, "");
        Due.is("tires at first", x.tries(0, 7, 40, 0), 150 - 7);
        x.mend(0, 2, 0);
        Due.is("never tires", x.tries(0, 99, 40, 0), 150);
        x.mend(0, 2, 9);
        Due.is("tires most", x.tries(0, 16, 40, 0), 150 - 144);
        Due.sentence("SLIPS (0 .. 12; 0 at first: in so many of twelve a try with a RUN counts nought)");
        within(1, 3, 0, 0, 12);
        for (int slips = 0; slips <= 12; slips++) {
            x.mend(1, 3, slips);
            long above = x.risk(1, 0, 11, 0), below = x.risk(1, 0, 11, 1);
            Due.is("in " + slips + " of twelve", above * 12, (12 - slips) * below);
            Due.is("without a run", x.risk(1, 0, 10, 0), 1);
        }
        Due.sentence("STEP (1 .. 20 tenths of a yard; 10 at first)");
        within(1, 4, 10, 1, 20);
    }

    private static void numbersOfStones() {
        Due.sentence("STONES 0 .. 8");
        StonesOver x = Due.lane(1, "z+w*100");
        for (int stone = 0; stone < 9; stone++) {
            Due.is("mend(" + stone + ", 5, " + (9 - stone) + ")", x.mend(stone, 5, 9 - stone), 5);
            Due.is("mend(" + stone + ", 6, " + stone % 2 + ")", x.mend(stone, 6, stone % 2), 0);
        }
        for (int stone = 0; stone < 9; stone++) {
            Due.is("of(" + stone + ", 5)", x.of(stone, 5), 9 - stone);
            Due.is("of(" + stone + ", 6)", x.of(stone, 6), stone % 2);
            Due.is("tries of " + stone, x.tries(0, 1000 * stone, 0, 0), 9 - stone + stone % 2 * 100);
            Due.is("spit of " + stone, x.spit(0, stone, 0), (9 - stone + stone % 2 * 110) / 10);
        }
        int[] none = {-1, 9, 10, LEAST, MOST};
        for (int stone : none) {
            for (int what = 5; what <= 6; what++) {
                Due.is("of(" + stone + ", " + what + ")", x.of(stone, what), VOID);
                Due.is("mend(" + stone + ", " + what + ", 1)", x.mend(stone, what, 1), VOID);
            }
            Due.is("spit of " + stone, x.spit(0, stone, 0), -1);
        }
        Due.is("tries of 9", x.tries(0, 9000, 0, 0), -1);
        Due.sentence("SIZE (1 .. 9; 5 at first)");
        within(0, 5, 5, 1, 9);
        within(8, 5, 5, 1, 9);
        Due.sentence("WET (0, 1; 0 at first)");
        within(0, 6, 0, 0, 1);
        within(8, 6, 0, 0, 1);
    }

    private static void numbersOfTheLane() {
        Due.sentence("WIND (-9 .. 9; 0 at first)");
        within(0, 7, 0, -9, 9);
        Due.sentence("GRASS (0 .. 999 tenths; 999 at first: from there on nothing rolls)");
        within(0, 8, 999, 0, 999);
        StonesOver x = Due.lane(1, "200+a");
        x.mend(0, 8, 204);
        Due.is("just before the grass", x.tries(0, 0, 30, 1), 204);
        Due.is("just at the grass", x.tries(0, 0, 40, 1), 204);
        Due.is("just in the grass", x.tries(0, 0, 50, 1), 205);
        Due.is("in the grass", x.tries(0, 0, 80, 1), 208);
        x.mend(0, 8, 0);
        Due.is("all is grass", x.tries(0, 0, 0, 1), 200);
        StonesOver far = Due.lane(1, "991+a");
        Due.is("rolls up to 999 at first", far.tries(0, 0, 70, 1), 999);
        Due.is("at 999 at first", far.tries(0, 0, 80, 1), 999);
        Due.sentence("BARREL (0 .. 999; 400 at first)");
        within(0, 9, 400, 0, 999);
        Due.sentence("RIM (0 .. 20; 5 at first)");
        within(0, 10, 5, 0, 20);
        StonesOver rim = Due.lane(1, "a=1?395;a=2?394;a=3?405;a=4?406;400");
        int[] points = {70, 69, 43, 70, 44};
        for (int angle = 0; angle < 5; angle++) {
            Due.is("at first at " + angle, rim.tries(0, 0, 10 * angle, 2), points[angle]);
        }
        Due.sentence("HEN (-1: none, as at first; 0 .. 999)");
        within(0, 11, -1, -1, 999);
        StonesOver hen = Due.lane(1, "a?999;0");
        hen.spit(0, 0, 0);
        hen.spit(0, 0, 10);
        Due.is("no hen is hit at first", hen.led(0, 4), 0);
        hen.mend(0, 11, 0);
        hen.spit(0, 0, 0);
        Due.is("the hen at 0", hen.led(0, 4), 1);
        hen.mend(0, 11, 999);
        Due.is("the hen at 999", hen.spit(0, 0, 10), 0);
        Due.is("the hen at 999", hen.led(0, 4), 2);
        hen.mend(0, 11, -1);
        Due.is("none again", hen.spit(0, 0, 10), 99);
        hen.spit(0, 0, 0);
        Due.is("none again", hen.led(0, 4), 2);
    }

    private static void stops(String law, int grass, int want) {
        StonesOver x = Due.lane(1, law);
        x.mend(0, 8, grass);
        x.mend(0, 10, 0);
        Due.is("what lands at " + law + ", grass from " + grass + ", stops", x.tries(0, 0, 0, 1), want);
        Due.is("what lands at " + law, x.tries(0, 0, 0, 0), Integer.parseInt(law));
    }

    private static void landsAndRolls() {
        Due.sentence("it LANDS; is that before GRASS, it ROLLS on a tenth of that (cut), but not beyond GRASS; where it STOPS");
        stops("100", 99, 100);
        stops("100", 100, 100);
        stops("100", 101, 101);
        stops("100", 109, 109);
        stops("100", 110, 110);
        stops("100", 111, 110);
        stops("0", 0, 0);
        stops("0", 999, 0);
        stops("9", 999, 9);
        stops("10", 999, 11);
        stops("19", 999, 20);
        stops("20", 999, 22);
        stops("908", 999, 998);
        stops("909", 999, 999);
        stops("910", 999, 999);
        stops("998", 999, 999);
        stops("999", 999, 999);
        stops("999", 0, 999);
    }

    private static void barrel(int lands, int barrel, int rim, boolean isIn) {
        StonesOver x = Due.lane(1, "" + lands);
        x.mend(0, 9, barrel);
        x.mend(0, 10, rim);
        int stops = isIn ? lands : Math.min(999, lands + lands / 10);
        String call = "at " + lands + ", barrel at " + barrel + ", rim " + rim;
        Due.is("stops " + call, x.tries(0, 0, 0, 1), stops);
        Due.is("points " + call, x.tries(0, 0, 0, 2), stops / 10 + (isIn ? 30 : 0));
        x.spit(0, 0, 0);
        Due.is("led(0, 5) " + call, x.led(0, 5), isIn ? 1 : 0);
    }

    private static void inTheBarrel() {
        Due.sentence("IN THE BARREL: it LANDS no more than RIM from BARREL: it STOPS there");
        barrel(100, 100, 0, true);
        barrel(100, 101, 0, false);
        barrel(100, 99, 0, false);
        barrel(100, 101, 1, true);
        barrel(100, 99, 1, true);
        barrel(100, 102, 1, false);
        barrel(100, 98, 1, false);
        barrel(100, 120, 20, true);
        barrel(100, 121, 20, false);
        barrel(100, 80, 20, true);
        barrel(100, 79, 20, false);
        barrel(100, 110, 5, false);
        barrel(0, 0, 0, true);
        barrel(20, 0, 20, true);
        barrel(21, 0, 20, false);
        barrel(0, 20, 20, true);
        barrel(0, 21, 20, false);
        barrel(999, 999, 0, true);
        barrel(979, 999, 20, true);
        barrel(978, 999, 20, false);
        StonesOver x = Due.lane(1, "100");
        x.mend(0, 9, 100);
        x.mend(0, 8, 0);
        Due.is("a barrel in the grass", x.tries(0, 0, 0, 2), 40);
    }

    private static void hen(int lands, int hen, int want) {
        StonesOver x = Due.lane(1, "" + lands);
        x.mend(0, 11, hen);
        String call = "at " + lands + ", the hen at " + hen;
        Due.is("points " + call, x.tries(0, 0, 0, 2), want);
        Due.is("spit " + call, x.spit(0, 0, 0), want);
        Due.is("led(0, 4) " + call, x.led(0, 4), lands == hen ? 1 : 0);
    }

    private static void hitsTheHen() {
        Due.sentence("HIT: there is a HEN, and it LANDS just there");
        hen(100, 100, 0);
        hen(100, 99, 11);
        hen(100, 101, 11);
        hen(100, 110, 11);
        hen(400, 400, 0);
        hen(400, 401, 70);
        hen(0, 0, 0);
        hen(0, -1, 0);
        hen(999, 999, 0);
        hen(998, 999, 99);
    }

    private static void worth(int lands, int want) {
        StonesOver x = Due.lane(1, "" + lands);
        x.mend(0, 8, 0);
        Due.is("points at " + lands, x.tries(0, 0, 0, 2), want);
    }

    private static void points() {
        Due.sentence("POINTS: how many tenths by 10 (cut) of where it STOPS; IN THE BARREL 30 more; HIT: 0");
        worth(0, 0);
        worth(9, 0);
        worth(10, 1);
        worth(19, 1);
        worth(20, 2);
        worth(989, 98);
        worth(990, 99);
        worth(999, 99);
        worth(394, 39);
        worth(395, 69);
        worth(399, 69);
        worth(400, 70);
        StonesOver x = Due.lane(1, "999");
        x.mend(0, 9, 999);
        Due.is("the most of all", x.tries(0, 0, 0, 2), 129);
        x.mend(0, 11, 999);
        Due.is("a hen in the barrel", x.tries(0, 0, 0, 2), 0);
        StonesOver rolled = Due.lane(1, "91");
        Due.is("of where it stops, not lands", rolled.tries(0, 0, 0, 2), 10);
    }
}
