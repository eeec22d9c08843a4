/** The sentences of the document that bound what is spat in deed, changes and the image, one by one. */
public final class DeedsBoundsTest {
    private static final int VOID = StonesOver.VOID, LEAST = Integer.MIN_VALUE, MOST = Integer.MAX_VALUE;

    public static void main(String[] args) {
        ask();
        Due.close("DeedsBoundsTest");
    }

    static void ask() {
        spit();
        rest();
        led();
        changes();
        sameNumbers();
        undone();
        doneAgain();
        forty();
        image();
        spittersThatCameSince();
    }

    private static void spit() {
        Due.sentence("SPIT by a SPITTER, a STONE, an angle, a RUN or not (no slip): POINTS; each SPITTER's count goes on");
        StonesOver x = Due.lane(2, "a=8?900-t*2+p-9;0");
        x.mend(0, 8, 0);
        x.mend(0, 10, 0);
        x.mend(0, 9, 999);
        x.mend(0, 3, 12);
        x.mend(0, 12, 12);
        Due.is("no slip, no laugh", x.spit(0, 0, 81), 90);
        int lands = 898;
        for (int i = 1; i < 130; i++) {
            Due.is(i + " ahead", x.spit(0, i % 9, 80), lands / 10);
            lands -= 2;
        }
        Due.is("the other's count is its own", x.spit(1, 0, 80), 90);
        Due.is("counted", x.led(0, 2), 130);
        Due.is("counted", x.led(1, 2), 1);
        int[] nobody = {-1, 2, 5, 6, LEAST, MOST};
        for (int spitter : nobody) {
            Due.is("spitter " + spitter, x.spit(spitter, 0, 80), -1);
        }
        int[] none = {-1, 9, LEAST, MOST};
        for (int stone : none) {
            Due.is("stone " + stone, x.spit(0, stone, 80), -1);
        }
        int[] hows = {-1, -10, 2, 9, 82, 89, 90, 91, 100, LEAST, MOST};
        for (int how : hows) {
            Due.is("how " + how, x.spit(0, 0, how), -1);
        }
        Due.is("not counted", x.led(0, 2) + x.led(0, 3), 130 + 131);
        Due.is("angle 0", x.spit(0, 8, 0), 0);
        Due.is("angle 0 with a run", x.spit(0, 8, 1), 0);
    }

    private static void rest() {
        Due.sentence("REST: counts are 0");
        StonesOver x = Due.lane(6, "200-t*10");
        x.mend(0, 8, 0);
        Due.is("none yet", x.rest(), 0);
        int all = 0;
        for (int i = 0; i < 6; i++) {
            for (int j = 0; j <= i; j++) {
                x.spit(i, 0, 0);
                all++;
            }
        }
        Due.is("of all six", x.rest(), all);
        for (int i = 0; i < 6; i++) {
            Due.is("count of " + i, x.led(i, 2), 0);
            Due.is("as fresh", x.spit(i, 0, 0), 20);
        }
        Due.is("six since", x.rest(), 6);
        Due.is("none since", x.rest(), 0);
        Due.is("tries go on", x.led(0, 3), all + 6);
        Due.is("POINTS go on", x.led(0, 0), 40);
        StonesOver nobody = new StonesOver();
        Due.is("nobody is there", nobody.rest(), 0);
        StonesOver each = Due.lane(6, "a?300;400");
        each.mend(0, 11, 300);
        each.spit(5, 0, 0);
        each.spit(5, 0, 10);
        Due.is("two", each.rest(), 2);
        Due.is("HENS go on", each.led(0, 4), 1);
        Due.is("BARREL goes on", each.led(0, 5), 1);
        Due.is("the best goes on", each.led(5, 1), 70);
    }

    private static void led() {
        Due.sentence("LED: POINTS of one together, its best, how many it spat since a REST, all tries, HENS hit, in the BARREL");
        StonesOver nobody = new StonesOver();
        for (int what = 0; what <= 5; what++) {
            Due.is("nobody is there, " + what, nobody.led(0, what), what <= 2 ? -1 : 0);
        }
        StonesOver x = Due.lane(6, "a*10");
        x.mend(0, 8, 0);
        x.mend(0, 9, 0);
        x.mend(0, 10, 0);
        Due.is("POINTS of none", x.led(5, 0), 0);
        Due.is("the best of none", x.led(5, 1), -2);
        Due.is("the count of none", x.led(5, 2), 0);
        x.spit(5, 0, 10);
        Due.is("the best of one", x.led(5, 1), 1);
        x.spit(5, 0, 80);
        x.spit(5, 0, 40);
        Due.is("POINTS of three", x.led(5, 0), 13);
        Due.is("the best of three", x.led(5, 1), 8);
        Due.is("the count of three", x.led(5, 2), 3);
        x.spit(5, 0, 0);
        Due.is("in the barrel", x.led(0, 5), 1);
        Due.is("POINTS of the barrel", x.led(5, 1), 30);
        x.mend(0, 11, 80);
        x.spit(4, 0, 80);
        Due.is("a hen", x.led(0, 4), 1);
        Due.is("a best of 0", x.led(4, 1), 0);
        Due.is("tries", x.led(0, 3), 5);
        Due.is("the others have none", x.led(0, 0) + x.led(0, 2), 0);
        int[] others = {1, 5, 6, -1, LEAST, MOST};
        for (int number : others) {
            for (int what = 3; what <= 5; what++) {
                Due.is("led(" + number + ", " + what + ")", x.led(number, what), -1);
            }
        }
        int[] none = {6, -1, LEAST, MOST};
        for (int number : none) {
            for (int what = 0; what <= 2; what++) {
                Due.is("led(" + number + ", " + what + ")", x.led(number, what), -1);
            }
        }
        int[] whats = {6, -1, LEAST, MOST};
        for (int what : whats) {
            Due.is("led(0, " + what + ")", x.led(0, what), -1);
        }
    }

    private static void changes() {
        Due.sentence("CHANGES (all numbers of mend();");
        StonesOver x = Due.lane(6, "");
        int[] other = {6, 5, 2, 3, 11, 6, 1, -9, 0, 0, 0, 0, 1};
        int[] first = {5, 4, 1, 0, 10, 5, 0, 0, 999, 400, 5, -1, 0};
        for (int what = 0; what <= 12; what++) {
            int number = what < 5 ? 5 : what < 7 ? 8 : 0;
            x.mend(number, what, other[what]);
            Due.is("one change", x.count(2), 1);
            Due.is("undone", x.undo(), 0);
            Due.is("as it was", x.of(number, what), first[what]);
            Due.is("none", x.undo(), -5);
            Due.is("again", x.redo(), 0);
            Due.is("again", x.of(number, what), other[what]);
            Due.is("none", x.redo(), -5);
            Due.is("undone", x.undo(), 0);
        }
    }

    private static void sameNumbers() {
        Due.sentence("telling the same number is none)");
        StonesOver x = Due.lane(1, "");
        Due.is("at first", x.mend(0, 7, 0), 0);
        Due.is("none", x.count(2), 0);
        Due.is("none", x.undo(), -5);
        x.mend(0, 7, 1);
        x.mend(0, 7, 1);
        Due.is("one", x.count(2), 1);
        x.mend(0, 7, 2);
        x.undo();
        Due.is("the same once more", x.mend(0, 7, 1), 1);
        Due.is("another may be done again yet", x.redo(), 0);
        Due.is("it is", x.of(0, 7), 2);
        Due.is("refused", x.mend(0, 7, 10), VOID);
        Due.is("two", x.count(2), 2);
    }

    private static void undone() {
        Due.sentence("can be UNDONE, the latest first");
        StonesOver x = Due.lane(1, "");
        Due.is("none", x.undo(), -5);
        x.mend(0, 7, 1);
        x.mend(0, 8, 7);
        x.mend(0, 7, 2);
        x.mend(3, 5, 9);
        Due.is("the stone", x.undo(), 3);
        Due.is("of(3, 5)", x.of(3, 5), 5);
        Due.is("of(0, 7)", x.of(0, 7), 2);
        Due.is("the wind", x.undo(), 2);
        Due.is("of(0, 7)", x.of(0, 7), 1);
        Due.is("the grass", x.undo(), 1);
        Due.is("of(0, 8)", x.of(0, 8), 999);
        Due.is("the wind", x.undo(), 0);
        Due.is("of(0, 7)", x.of(0, 7), 0);
        Due.is("none", x.undo(), -5);
        Due.is("none is left", x.count(2), 0);
    }

    private static void doneAgain() {
        Due.sentence("DONE AGAIN (as long as no other came behind)");
        StonesOver x = Due.lane(1, "");
        Due.is("none", x.redo(), -5);
        x.mend(0, 7, 1);
        Due.is("none undone", x.redo(), -5);
        x.mend(0, 7, 2);
        x.mend(0, 7, 3);
        x.undo();
        x.undo();
        x.undo();
        Due.is("the first", x.redo(), 2);
        Due.is("of(0, 7)", x.of(0, 7), 1);
        Due.is("the second", x.redo(), 1);
        Due.is("of(0, 7)", x.of(0, 7), 2);
        Due.is("may be undone", x.count(2), 2);
        x.undo();
        x.mend(0, 8, 5);
        Due.is("another came behind", x.redo(), -5);
        Due.is("two may be undone", x.count(2), 2);
        x.undo();
        Due.is("of(0, 8)", x.of(0, 8), 999);
        Due.is("the other again", x.redo(), 0);
        Due.is("of(0, 8)", x.of(0, 8), 5);
        Due.is("none", x.redo(), -5);
        Due.is("of(0, 7)", x.of(0, 7), 1);
    }

    private static void forty() {
        Due.sentence("40 at most are kept; deeds are none");
        StonesOver x = Due.lane(2, "");
        for (int i = 1; i <= 39; i++) {
            x.mend(0, 8, i);
        }
        Due.is("39", x.count(2), 39);
        x.mend(0, 9, 7);
        Due.is("40", x.count(2), 40);
        Due.is("undo, of 40", x.undo(), 39);
        Due.is("redo, of 40", x.redo(), 0);
        x.mend(1, 0, 9);
        Due.is("41, of which 40 are kept", x.count(2), 40);
        x.mend(0, 8, 500);
        x.mend(0, 8, 501);
        Due.is("43, of which 40 are kept", x.count(2), 40);
        for (int i = 39; i >= 0; i--) {
            Due.is("undo, " + i + " left", x.undo(), i);
        }
        Due.is("none", x.undo(), -5);
        Due.is("the first three stay", x.of(0, 8), 3);
        Due.is("all others are as they were", x.of(0, 9) + x.of(1, 0), 405);
        for (int i = 39; i >= 0; i--) {
            Due.is("redo, " + i + " left", x.redo(), i);
        }
        Due.is("none", x.redo(), -5);
        Due.is("all are again", x.of(0, 8), 501);
        Due.is("all are again", x.of(0, 9) + x.of(1, 0), 16);
        for (int i = 0; i < 40; i++) {
            x.undo();
        }
        x.mend(0, 8, 77);
        Due.is("one behind forty undone", x.count(2), 1);
        Due.is("none of them again", x.redo(), -5);
        Due.is("it is undone", x.undo(), 0);
        Due.is("as it was", x.of(0, 8), 3);
        deedsAreNone();
    }

    private static void deedsAreNone() {
        StonesOver x = Due.lane(1, "");
        x.mend(0, 7, 1);
        x.undo();
        x.spitter(1, 1);
        x.spit(0, 0, 40);
        x.image();
        x.rest();
        x.back();
        Due.law(x, "7");
        Due.row(x, 0, 0, 1, 1, 1);
        x.spitters(0, 0, 1);
        x.body(0);
        x.keep(1, 0);
        x.act(0, 0, 0);
        Due.is("none may be undone", x.count(2), 0);
        Due.is("none may be undone", x.undo(), -5);
        Due.is("none came behind", x.redo(), 0);
        Due.is("the wind again", x.of(0, 7), 1);
        Due.is("the wind as it was", x.undo(), 0);
        Due.is("the try stays", x.led(0, 3), 1);
        Due.is("the spitters stay", x.count(0), 3);
        Due.is("the law stays", x.tries(0, 0, 0, 0), 7);
    }

    private static void image() {
        Due.sentence("AN IMAGE keeps counts, what LED tells");
        StonesOver x = Due.lane(2, "a*10");
        x.mend(0, 8, 0);
        x.mend(0, 9, 0);
        x.mend(0, 10, 0);
        x.mend(0, 11, 80);
        Due.is("none yet", x.back(), -5);
        Due.is("of nothing", x.image(), 0);
        x.spit(0, 0, 70);
        x.spit(0, 0, 0);
        x.spit(1, 0, 80);
        Due.is("back to nothing", x.back(), 0);
        for (int what = 0; what <= 5; what++) {
            Due.is("led(0, " + what + ")", x.led(0, what), what == 1 ? -2 : 0);
        }
        Due.is("led(1, 1)", x.led(1, 1), -2);
        x.spit(0, 0, 70);
        x.spit(0, 0, 0);
        x.spit(1, 0, 80);
        Due.is("of three", x.image(), 3);
        x.rest();
        x.spit(0, 0, 0);
        x.spit(1, 0, 80);
        x.spit(1, 0, 70);
        int[] want = {37, 30, 2, 3, 1, 1};
        for (int time = 0; time < 2; time++) {
            Due.is("back", x.back(), 3);
            for (int what = 0; what <= 5; what++) {
                Due.is("led(0, " + what + ")", x.led(0, what), want[what]);
            }
            Due.is("led(1, 0)", x.led(1, 0), 0);
            Due.is("led(1, 1)", x.led(1, 1), 0);
            Due.is("led(1, 2)", x.led(1, 2), 1);
            x.spit(1, 0, 70);
        }
        Due.is("a later one", x.image(), 4);
        x.spit(1, 0, 70);
        Due.is("back to the later one", x.back(), 4);
        Due.is("tries", x.led(0, 3), 4);
    }

    private static void spittersThatCameSince() {
        Due.sentence("It is laid back (SPITTERS that came since: nothing spat): tries. STATE: there is none");
        StonesOver x = new StonesOver();
        Due.is("none", x.back(), -5);
        Due.is("of nobody", x.image(), 0);
        for (int i = 0; i < 6; i++) {
            x.spitter(9, 9);
            x.spit(i, 0, 40);
        }
        x.mend(0, 7, 3);
        Due.is("tries", x.led(0, 3), 6);
        Due.is("back", x.back(), 0);
        for (int i = 0; i < 6; i++) {
            Due.is("POINTS of " + i, x.led(i, 0), 0);
            Due.is("the best of " + i, x.led(i, 1), -2);
            Due.is("the count of " + i, x.led(i, 2), 0);
            Due.is("MOUTH of " + i, x.of(i, 0), 9);
        }
        Due.is("six are there", x.count(0), 6);
        Due.is("numbers of mend() are not in it", x.of(0, 7), 3);
        Due.is("changes are not in it", x.count(2), 1);
        Due.is("rest", x.rest(), 0);
    }
}
