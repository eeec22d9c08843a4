/** Promises 8 to 13: tries in thought. */
public final class ThoughtTest {
    private static final long MIN = Long.MIN_VALUE;

    public static void main(String[] args) {
        triesByTheLawWithoutText();
        triesRollBarrelAndHen();
        triesRefuse();
        bestAngles();
        orders();
        ordersRefuse();
        riskOfOneTry();
        risksOfTries();
        practiceHelps();
        Due.close("ThoughtTest");
    }

    /** p 9, SIZE 5: at angle 4 it lands at 162 less 12, rolls on 15, and has 16 POINTS. */
    private static StonesOver oneSpitter() {
        StonesOver x = new StonesOver();
        x.spitter(5, 4);
        return x;
    }

    private static void triesByTheLawWithoutText() {
        StonesOver x = oneSpitter();
        Due.is("lands", x.tries(0, 0, 40, 0), 150);
        Due.is("stops", x.tries(0, 0, 40, 1), 165);
        Due.is("points", x.tries(0, 0, 40, 2), 16);
        Due.is("angle 3", x.tries(0, 0, 30, 0), 132);
        Due.is("angle 5", x.tries(0, 0, 50, 0), 132);
        Due.is("angle 0", x.tries(0, 0, 0, 0), 78);
        Due.is("angle 8", x.tries(0, 0, 80, 0), 78);
        Due.is("with a run", x.tries(0, 0, 41, 0), 204);
        Due.is("7 ahead", x.tries(0, 7, 40, 0), 143);
        x.mend(0, 2, 9);
        Due.is("7 ahead, tiring 9", x.tries(0, 7, 40, 0), 87);
        Due.is("99 ahead, tiring 9", x.tries(0, 99, 40, 0), 0);
        x.mend(8, 6, 1);
        Due.is("wet", x.tries(0, 8000, 40, 0), 156);
        x.mend(8, 5, 9);
        Due.is("wet, large", x.tries(0, 8000, 40, 0), 128);
        x.mend(0, 7, -3);
        Due.is("against the wind", x.tries(0, 0, 50, 0), 117);
        x.mend(0, 7, 9);
        Due.is("before the wind", x.tries(0, 0, 80, 0), 150);
        Due.is("and no wind at 0", x.tries(0, 0, 0, 0), 78);
    }

    private static void triesRollBarrelAndHen() {
        StonesOver x = oneSpitter();
        x.mend(0, 8, 160);
        Due.is("rolls up to the grass", x.tries(0, 0, 40, 1), 160);
        x.mend(0, 8, 150);
        Due.is("lands at the grass", x.tries(0, 0, 40, 1), 150);
        x.mend(0, 8, 100);
        Due.is("lands in the grass", x.tries(0, 0, 40, 1), 150);
        x.mend(0, 8, 999);
        x.mend(0, 9, 145);
        Due.is("in the barrel by the rim", x.tries(0, 0, 40, 1), 150);
        Due.is("30 more", x.tries(0, 0, 40, 2), 45);
        x.mend(0, 9, 155);
        Due.is("in the barrel from before", x.tries(0, 0, 40, 2), 45);
        x.mend(0, 9, 144);
        Due.is("just beyond the rim", x.tries(0, 0, 40, 2), 16);
        x.mend(0, 9, 165);
        Due.is("rolling is no landing", x.tries(0, 0, 40, 2), 16);
        x.mend(0, 11, 150);
        Due.is("hits the hen", x.tries(0, 0, 40, 2), 0);
        Due.is("and stops as ever", x.tries(0, 0, 40, 1), 165);
        x.mend(0, 9, 150);
        Due.is("hits the hen in the barrel", x.tries(0, 0, 40, 2), 0);
        x.mend(0, 11, 165);
        Due.is("the hen where it would stop", x.tries(0, 0, 40, 2), 45);
        x.mend(0, 11, 0);
        x.mend(0, 2, 9);
        Due.is("the hen at 0", x.tries(0, 99, 40, 2), 0);
        Due.law(x, "950");
        Due.is("rolls up to 999", x.tries(0, 0, 0, 1), 999);
        Due.law(x, "9");
        Due.is("a tenth is cut", x.tries(0, 0, 0, 1), 9);
    }

    private static void triesRefuse() {
        StonesOver x = oneSpitter();
        Due.is("no such spitter", x.tries(1, 0, 40, 0), -1);
        Due.is("no such spitter", x.tries(-1, 0, 40, 0), -1);
        Due.is("no such stone", x.tries(0, 9000, 40, 0), -1);
        Due.is("no such k", x.tries(0, 8100, 40, 0), -1);
        Due.is("sk below 0", x.tries(0, -1, 40, 0), -1);
        Due.is("no such angle", x.tries(0, 0, 90, 0), -1);
        Due.is("no such run", x.tries(0, 0, 42, 0), -1);
        Due.is("how below 0", x.tries(0, 0, -1, 0), -1);
        Due.is("no such what", x.tries(0, 0, 40, 3), -1);
        Due.is("no such what", x.tries(0, 0, 40, -1), -1);
        Due.is("the last of each", x.tries(0, 8099, 81, 2), Math.max(0, 12 * 5 * 2 - 12 - 99) / 10);
    }

    private static void bestAngles() {
        StonesOver x = oneSpitter();
        Due.is("for stops", x.angle(0, 0, 0), 4);
        Due.is("for points", x.angle(0, 0, 1), 4);
        Due.is("of all", x.angle(0, 0, 2), 41);
        x.mend(0, 9, 132);
        Due.is("for stops, as ever", x.angle(0, 0, 0), 4);
        Due.is("for points: the barrel, of like ones the least", x.angle(0, 0, 1), 3);
        Due.is("of all: into the barrel by a run at 1, too", x.angle(0, 0, 2), 11);
        x.mend(0, 9, 150);
        Due.is("of all: into the barrel without a run", x.angle(0, 0, 2), 40);
        x.mend(0, 9, 204);
        Due.is("of all: with a run into the barrel", x.angle(0, 0, 2), 41);
        Due.law(x, "100");
        Due.is("all alike", x.angle(0, 0, 0), 0);
        Due.is("all alike", x.angle(0, 0, 1), 0);
        Due.is("all alike, without a run", x.angle(0, 0, 2), 0);
        Due.law(x, "p=12&a=0|a>5?100;10");
        Due.is("a run that brings it at a less angle", x.angle(0, 0, 2), 1);
        Due.law(x, "p=12&a>4|a=3?100;10");
        Due.is("no run that brings it at a less angle", x.angle(0, 0, 2), 30);
        Due.is("angle(1, 0, 0)", x.angle(1, 0, 0), -1);
        Due.is("angle(0, 9000, 0)", x.angle(0, 9000, 0), -1);
        Due.is("angle(0, 100, 0)", x.angle(0, 100, 0), -1);
        Due.is("angle(0, 0, 3)", x.angle(0, 0, 3), -1);
        Due.is("angle(0, 0, -1)", x.angle(0, 0, -1), -1);
    }

    private static void orders() {
        StonesOver x = oneSpitter();
        // Each STONE's law of its own: how far by how many were ahead.
        x.mend(0, 5, 1);
        x.mend(1, 5, 2);
        x.mend(2, 5, 3);
        Due.law(x, "z=1?200-t*20;z=2?100-t*50;z=3?150;50");
        // 0: 22, 19, 17; 1: 11, 5, 0; 2: 16 wherever it stands.
        Due.is("all together", x.order(0, 71, 0, -1), 11 + 19 + 16);
        Due.is("first", x.order(0, 71, 0, 0), 1);
        Due.is("then", x.order(0, 71, 0, 1), 0);
        Due.is("last", x.order(0, 71, 0, 2), 2);
        Due.is("not as many", x.order(0, 71, 0, 3), -2);
        Due.is("the best one", x.order(0, 70, 0, -1), 22);
        Due.is("first", x.order(0, 70, 0, 0), 0);
        Due.is("then by numbers", x.order(0, 70, 0, 1), 1);
        Due.is("two behind", x.order(0, 71, 2, -1), 17 + 16 + 0);
        Due.is("the best of two behind", x.order(0, 60, 2, -1), 16);
        Due.is("like ones: the first by numbers", x.order(0, 60, 2, 0), 1);
        Due.is("one stone", x.order(0, 41, 99, -1), 16);
        Due.is("that one", x.order(0, 41, 99, 0), 2);
        Due.is("no stone", x.order(0, 1, 0, -1), 0);
        Due.is("no stone", x.order(0, 1, 0, 0), -2);
        Due.is("seven that are alike", x.order(0, 10 * (511 - 3) + 1, 0, -1), 16 + 6 * 5);
        for (int i = 0; i < 7; i++) {
            Due.is("by numbers", x.order(0, 10 * (511 - 3) + 1, 0, i), i + 2);
        }
    }

    private static void ordersRefuse() {
        StonesOver x = oneSpitter();
        Due.is("eight", x.order(0, 10 * 255, 0, -1), -5);
        Due.is("nine", x.order(0, 10 * 511 + 1, 99, 3), -5);
        Due.is("no such set", x.order(0, 10 * 512, 0, -1), -1);
        Due.is("no such rule", x.order(0, 12, 0, -1), -1);
        Due.is("no such rule, of nine", x.order(0, 5112, 0, -1), -1);
        Due.is("sr below 0", x.order(0, -1, 0, -1), -1);
        Due.is("no such k", x.order(0, 10, 100, -1), -1);
        Due.is("no such k", x.order(0, 10, -1, -1), -1);
        Due.is("no such i", x.order(0, 10, 0, -2), -1);
        Due.is("no such spitter", x.order(1, 10, 0, -1), -1);
        Due.is("no such spitter, of eight", x.order(1, 2550, 0, -1), -1);
    }

    private static void riskOfOneTry() {
        StonesOver x = oneSpitter();
        x.mend(0, 3, 4);
        // 16 without a run; with one 204 and 20: 22.
        Due.is("without, sure", x.risk(0, 0, 150, 0), 1);
        Due.is("without, sure", x.risk(0, 0, 150, 1), 1);
        Due.is("without, as much is not more", x.risk(0, 0, 160, 0), 0);
        Due.is("without, none", x.risk(0, 0, 160, 1), 1);
        Due.is("with, eight of twelve", x.risk(0, 0, 211, 0), 2);
        Due.is("with, eight of twelve", x.risk(0, 0, 211, 1), 3);
        Due.is("with, none", x.risk(0, 0, 221, 0), 0);
        Due.is("with, none", x.risk(0, 0, 221, 1), 1);
        Due.is("with, eight of twelve though without is sure", x.risk(0, 0, 11, 1), 3);
        x.mend(0, 3, 12);
        Due.is("always slips", x.risk(0, 0, 1, 0), 0);
        Due.is("no such xr", x.risk(0, 0, 10000, 0), MIN);
        Due.is("no such run", x.risk(0, 0, 152, 0), MIN);
        Due.is("xr below 0", x.risk(0, 0, -1, 0), MIN);
        Due.is("no such part", x.risk(0, 0, 150, 2), MIN);
        Due.is("no such part", x.risk(0, 0, 150, -1), MIN);
        Due.is("no such spitter", x.risk(1, 0, 150, 0), MIN);
        Due.is("no such stone", x.risk(0, 9000, 150, 0), MIN);
        Due.is("the greatest xr", x.risk(0, 0, 9991, 0), 0);
    }

    private static void risksOfTries() {
        StonesOver x = oneSpitter();
        x.mend(0, 3, 4);
        Due.is("one try", x.risks(0, 0, 201, 0), 2);
        Due.is("one try", x.risks(0, 0, 201, 1), 3);
        Due.is("one try with a run", x.risks(0, 0, 201, 2), 1);
        Due.is("two tries", x.risks(0, 0, 202, 0), 8);
        Due.is("two tries", x.risks(0, 0, 202, 1), 9);
        Due.is("sure without", x.risks(0, 0, 152, 0), 1);
        Due.is("sure without, no run", x.risks(0, 0, 152, 2), 0);
        Due.is("none", x.risks(0, 0, 999 * 10 + 9, 0), 0);
        Due.is("none", x.risks(0, 0, 999 * 10 + 9, 1), 1);
        Due.is("none, no run", x.risks(0, 0, 999 * 10 + 9, 2), 0);
        // Tiring 9: with a run 22, 21, 20, 19 .. beat 20 twice.
        x.mend(0, 2, 9);
        Due.is("tires", x.risks(0, 0, 209, 0), 8);
        Due.is("tires", x.risks(0, 0, 209, 1), 9);
        // A law by which it is sure later: the first without a run.
        Due.law(x, "t=9?300;p>10?300;100");
        Due.is("sure later", x.risks(0, 0, 152, 0), 1);
        Due.is("sure later, no run first", x.risks(0, 0, 152, 2), 0);
        Due.is("not sure yet, a run", x.risks(0, 0, 151, 2), 1);
        Due.is("no tries", x.risks(0, 0, 150, 0), MIN);
        Due.is("no such x", x.risks(0, 0, 10001, 0), MIN);
        Due.is("xn below 0", x.risks(0, 0, -1, 0), MIN);
        Due.is("no such part", x.risks(0, 0, 151, 3), MIN);
        Due.is("no such part", x.risks(0, 0, 151, -1), MIN);
        Due.is("no such spitter", x.risks(1, 0, 151, 0), MIN);
        Due.is("no such k", x.risks(0, 100, 151, 0), MIN);
    }

    private static void practiceHelps() {
        StonesOver x = oneSpitter();
        // By p at angle 4: 18 p less 12: 5 -> 78, 85: 8; 8 -> 132, 145: 14; 9 -> 16.
        Due.is("as it is", x.practice(0, 0, 16, 0), 4);
        Due.is("one more", x.practice(0, 0, 17, 0), 5);
        Due.is("the least", x.practice(0, 0, 8, 0), 0);
        Due.is("any", x.practice(0, 0, 0, 0), 0);
        Due.is("no skill", x.practice(0, 0, 27, 0), -2);
        Due.is("mouth as it is", x.practice(0, 0, 16, 1), 5);
        Due.is("the least mouth", x.practice(0, 0, 0, 1), 1);
        Due.is("no mouth", x.practice(0, 0, 999, 1), -2);
        Due.is("tired", x.practice(0, 18, 16, 0), 5);
        Due.law(x, "p=7?200;10");
        Due.is("a law for the weak", x.practice(0, 0, 20, 0), 2);
        Due.is("a law for the small mouth", x.practice(0, 0, 20, 1), 3);
        Due.is("nothing is changed", x.of(0, 1), 4);
        Due.is("no such x", x.practice(0, 0, 1000, 0), -1);
        Due.is("no such x", x.practice(0, 0, -1, 0), -1);
        Due.is("no such what", x.practice(0, 0, 0, 2), -1);
        Due.is("no such what", x.practice(0, 0, 0, -1), -1);
        Due.is("no such spitter", x.practice(1, 0, 0, 0), -1);
        Due.is("no such k", x.practice(0, 100, 0, 0), -1);
    }
}
