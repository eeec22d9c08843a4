/** Promises 25 to 31: spitting in deed, what is led, an image, changes undone and done again. */
public final class DeedsTest {
    public static void main(String[] args) {
        spitCountsOn();
        spitRefuses();
        restCountsAnew();
        ledOfHensAndBarrel();
        imageLaidBack();
        undoneLatestFirst();
        doneAgainUntilAnotherComes();
        fortyAreKept();
        deedsAreNotUndone();
        Due.close("DeedsTest");
    }

    private static StonesOver two() {
        StonesOver x = new StonesOver();
        x.spitter(5, 4);
        x.spitter(9, 9);
        x.mend(0, 2, 9);
        return x;
    }

    private static void spitCountsOn() {
        StonesOver x = two();
        // 150, 141, 132: with a tenth more 165, 155, 145.
        Due.is("none yet", x.led(0, 1), -2);
        Due.is("none yet", x.led(0, 0), 0);
        Due.is("none yet", x.led(0, 2), 0);
        Due.is("spit", x.spit(0, 0, 40), 16);
        Due.is("spit", x.spit(0, 0, 40), 15);
        Due.is("spit with a run", x.spit(0, 0, 41), (186 + 18) / 10);
        Due.is("the other is fresh", x.spit(1, 0, 40), (312 + 31) / 10);
        Due.is("POINTS together", x.led(0, 0), 51);
        Due.is("its best", x.led(0, 1), 20);
        Due.is("since a rest", x.led(0, 2), 3);
        Due.is("the other's", x.led(1, 0), 34);
        Due.is("the other's best", x.led(1, 1), 34);
        Due.is("all tries", x.led(0, 3), 4);
        Due.is("in thought as ever", x.tries(0, 0, 40, 0), 150);
        x.mend(0, 3, 12);
        Due.is("no slip in deed", x.spit(0, 0, 41), (177 + 17) / 10);
        for (int i = 0; i < 200; i++) {
            x.spit(0, 0, 0);
        }
        Due.is("more than 99 ahead", x.spit(0, 0, 41), 0);
        Due.is("since a rest", x.led(0, 2), 205);
    }

    private static void spitRefuses() {
        StonesOver x = two();
        Due.is("no such spitter", x.spit(2, 0, 40), -1);
        Due.is("no such spitter", x.spit(-1, 0, 40), -1);
        Due.is("no such stone", x.spit(0, 9, 40), -1);
        Due.is("no such stone", x.spit(0, -1, 40), -1);
        Due.is("no such angle", x.spit(0, 0, 90), -1);
        Due.is("no such run", x.spit(0, 0, 42), -1);
        Due.is("how below 0", x.spit(0, 0, -1), -1);
        Due.is("no tries", x.led(0, 3), 0);
        Due.is("the last of each", x.spit(1, 8, 81), (198 + 19) / 10);
    }

    private static void restCountsAnew() {
        StonesOver x = two();
        Due.is("none", x.rest(), 0);
        x.spit(0, 0, 40);
        x.spit(0, 0, 40);
        x.spit(1, 0, 40);
        Due.is("three", x.rest(), 3);
        Due.is("none since", x.rest(), 0);
        Due.is("as fresh", x.spit(0, 0, 40), 16);
        Due.is("since a rest", x.led(0, 2), 1);
        Due.is("since a rest", x.led(1, 2), 0);
        Due.is("POINTS as ever", x.led(0, 0), 16 + 15 + 16);
        Due.is("best as ever", x.led(0, 1), 16);
        Due.is("tries as ever", x.led(0, 3), 4);
    }

    private static void ledOfHensAndBarrel() {
        StonesOver x = two();
        x.mend(0, 9, 150);
        Due.is("in the barrel", x.spit(0, 0, 40), 45);
        x.rest();
        x.mend(0, 11, 150);
        Due.is("a hen in the barrel", x.spit(0, 0, 40), 0);
        x.rest();
        x.mend(0, 9, 500);
        Due.is("a hen", x.spit(0, 0, 40), 0);
        Due.is("hens", x.led(0, 4), 2);
        Due.is("barrel", x.led(0, 5), 2);
        Due.is("tries", x.led(0, 3), 3);
        Due.is("best", x.led(0, 1), 45);
        Due.is("who has not spat has no best", x.led(1, 1), -2);
        x.mend(0, 11, 312);
        x.spit(1, 0, 40);
        Due.is("a best of 0 is one", x.led(1, 1), 0);
        Due.is("led(1, 3)", x.led(1, 3), -1);
        Due.is("led(1, 4)", x.led(1, 4), -1);
        Due.is("led(-1, 5)", x.led(-1, 5), -1);
        Due.is("led(2, 0)", x.led(2, 0), -1);
        Due.is("led(-1, 1)", x.led(-1, 1), -1);
        Due.is("led(0, 6)", x.led(0, 6), -1);
        Due.is("led(0, -1)", x.led(0, -1), -1);
    }

    private static void imageLaidBack() {
        StonesOver x = two();
        Due.is("none", x.back(), -5);
        x.mend(0, 9, 150);
        x.spit(0, 0, 40);
        x.spit(0, 0, 40);
        Due.is("image", x.image(), 2);
        x.spit(0, 0, 40);
        x.spit(1, 0, 40);
        x.mend(0, 7, 5);
        x.spitter(1, 1);
        x.spit(2, 0, 40);
        x.rest();
        Due.is("tries", x.led(0, 3), 5);
        Due.is("back", x.back(), 2);
        Due.is("tries", x.led(0, 3), 2);
        Due.is("barrel", x.led(0, 5), 1);
        Due.is("hens", x.led(0, 4), 0);
        Due.is("since a rest", x.led(0, 2), 2);
        Due.is("POINTS", x.led(0, 0), 45 + 15);
        Due.is("best", x.led(0, 1), 45);
        Due.is("who had none", x.led(1, 1), -2);
        Due.is("who came since is there", x.count(0), 3);
        Due.is("who came since has nothing", x.led(2, 0), 0);
        Due.is("who came since has no best", x.led(2, 1), -2);
        Due.is("who came since is fresh", x.led(2, 2), 0);
        Due.is("mended numbers stay", x.of(0, 7), 5);
        x.mend(0, 7, 0);
        Due.is("as tired as it was", x.spit(0, 0, 40), (132 + 13) / 10);
        Due.is("back again", x.back(), 2);
        x.spit(0, 0, 40);
        Due.is("a later image", x.image(), 3);
        x.spit(0, 0, 40);
        Due.is("back to the later", x.back(), 3);
    }

    private static void undoneLatestFirst() {
        StonesOver x = two();
        Due.is("one change", x.count(2), 1);
        x.mend(0, 7, 4);
        x.mend(0, 7, 6);
        x.mend(1, 5, 9);
        Due.is("undo the stone", x.undo(), 3);
        Due.is("as it was", x.of(1, 5), 5);
        Due.is("the wind yet", x.of(0, 7), 6);
        Due.is("undo", x.undo(), 2);
        Due.is("as it was", x.of(0, 7), 4);
        Due.is("undo", x.undo(), 1);
        Due.is("as it was", x.of(0, 7), 0);
        Due.is("undo", x.undo(), 0);
        Due.is("as it was", x.of(0, 2), 1);
        Due.is("none", x.undo(), -5);
        Due.is("count(2)", x.count(2), 0);
        Due.is("redo", x.redo(), 3);
        Due.is("the first again", x.of(0, 2), 9);
        Due.is("count(2)", x.count(2), 1);
    }

    private static void doneAgainUntilAnotherComes() {
        StonesOver x = two();
        Due.is("none", x.redo(), -5);
        x.mend(0, 8, 100);
        x.mend(0, 8, 200);
        x.mend(0, 8, 300);
        x.undo();
        x.undo();
        Due.is("as it was", x.of(0, 8), 100);
        Due.is("redo", x.redo(), 1);
        Due.is("again", x.of(0, 8), 200);
        Due.is("the same number", x.mend(0, 8, 200), 200);
        Due.is("refused", x.mend(0, 8, 1000), StonesOver.VOID);
        Due.is("redo", x.redo(), 0);
        Due.is("again", x.of(0, 8), 300);
        Due.is("none", x.redo(), -5);
        x.undo();
        x.mend(0, 9, 7);
        Due.is("another came behind", x.redo(), -5);
        Due.is("undo the other", x.undo(), 3);
        Due.is("as it was", x.of(0, 9), 400);
        Due.is("undo", x.undo(), 2);
        Due.is("as it was", x.of(0, 8), 100);
    }

    private static void fortyAreKept() {
        StonesOver x = two();
        for (int i = 1; i <= 50; i++) {
            x.mend(0, 8, i);
            Due.is("count(2)", x.count(2), Math.min(40, i + 1));
        }
        for (int i = 49; i >= 10; i--) {
            Due.is("undo", x.undo(), i - 10);
            Due.is("as it was", x.of(0, 8), i);
        }
        Due.is("none", x.undo(), -5);
        for (int i = 11; i <= 50; i++) {
            Due.is("redo", x.redo(), 50 - i);
            Due.is("again", x.of(0, 8), i);
        }
        Due.is("none", x.redo(), -5);
    }

    private static void deedsAreNotUndone() {
        StonesOver x = two();
        x.mend(0, 7, 1);
        x.spit(0, 0, 40);
        x.spitter(2, 2);
        x.image();
        x.rest();
        Due.law(x, "5");
        Due.is("the wind only", x.undo(), 1);
        Due.is("as it was", x.of(0, 7), 0);
        Due.is("the try stays", x.led(0, 3), 1);
        Due.is("the spitter stays", x.count(0), 3);
        Due.is("the law stays", x.tries(0, 0, 0, 0), 5);
        x.spit(0, 0, 40);
        Due.is("a deed is no change behind", x.redo(), 0);
        Due.is("again", x.of(0, 7), 1);
    }
}
