/** Promises 6 and 7: THE TAPE, and THE LAW told as a text. */
public final class LawTest {
    public static void main(String[] args) {
        feedTakesBytes();
        faultsAreTold();
        sixMayBeOpen();
        theTapeIsEmptyThen();
        signsAreWorkedOut();
        linesCount();
        namesAreTold();
        whatItGivesIsHeld();
        Due.close("LawTest");
    }

    private static void feedTakesBytes() {
        StonesOver x = new StonesOver();
        Due.is("feed(-1)", x.feed(-1), -1);
        Due.is("feed(256)", x.feed(256), -1);
        Due.is("feed(0)", x.feed(0), 1);
        Due.is("feed(255)", x.feed(255), 2);
        for (int i = 3; i <= 120; i++) {
            Due.is("feed(65)", x.feed(65), i);
        }
        Due.is("the 121st", x.feed(65), -3);
        Due.is("the 121st, no byte", x.feed(256), -1);
        Due.is("count(1)", x.count(1), 120);
    }

    private static void fault(String text, int place) {
        StonesOver x = new StonesOver();
        Due.is("law " + text, Due.law(x, text), place < 0 ? 1 : -100 - place);
    }

    private static void faultsAreTold() {
        fault("", 0);
        fault("b", 0);
        fault(" a", 0);
        fault("a ", 1);
        fault("a+", 2);
        fault("a++b", 2);
        fault("a+b", 2);
        fault("1234", -1);
        fault("12345", 4);
        fault("a1", 1);
        fault("1a", 1);
        fault("(a", 2);
        fault("(a))", 3);
        fault("()", 1);
        fault("a)", 1);
        fault("a<p<z", 3);
        fault("a<p|z>w&e=t", -1);
        fault("(a<p)<z", -1);
        fault("a=p=1", 3);
        fault("a?p?z", 3);
        fault("a?p", -1);
        fault("a?", 2);
        fault("(a?p)", 2);
        fault("(a;p)", 2);
        fault("a;", 2);
        fault(";a", 0);
        fault("a?p;z?w;e", -1);
        fault("a?p;z?w?e", 7);
        fault("a!p", 1);
        fault("!a", -1);
        fault("!", 1);
        fault("-", 1);
        fault("a--a", -1);
        fault("a-!-a", -1);
        fault("A", 0);
        fault("a" + (char) 200, 1);
        fault("a" + (char) 0, 1);
        fault("a&&p", 2);
        fault("a||p", 2);
        fault("*a", 0);
        StringBuilder longest = new StringBuilder("a");
        while (longest.length() < 119) {
            longest.append("+a");
        }
        fault(longest.toString(), -1);
        fault(longest + "+", 120);
    }

    private static void sixMayBeOpen() {
        fault("!!!!!!a", -1);
        fault("!!!!!!!a", 6);
        fault("------1", -1);
        fault("-------1", 6);
        fault("((((((a))))))", -1);
        fault("(((((((a", 6);
        fault("(!-(!-a))", -1);
        fault("(!-(!-(a", 6);
        fault("(!-(!-a+!!!", 10);
        fault("(!-(!-a+!", 9);
        fault("(!-(!-a)+!!!!!a", 15);
        fault("(!-(!-a)+!!!!!a)", -1);
        fault("(!-(!-a)+!!!!!!a)", 14);
        fault("-a-a-a-a-a-a-a-a-!-a", -1);
    }

    private static void theTapeIsEmptyThen() {
        StonesOver x = new StonesOver();
        x.spitter(5, 4);
        Due.is("law 77", Due.law(x, "77"), 1);
        Due.is("count(1)", x.count(1), 0);
        Due.is("tries", x.tries(0, 0, 0, 0), 77);
        Due.is("law 7+", Due.law(x, "7+"), -102);
        Due.is("count(1) after a fault", x.count(1), 0);
        Due.is("the law is as it was", x.tries(0, 0, 0, 0), 77);
        Due.is("law of an empty tape", x.law(), -100);
        Due.is("the law is as it was", x.tries(0, 0, 0, 0), 77);
        Due.is("law 8", Due.law(x, "8"), 1);
        Due.is("the new law", x.tries(0, 0, 0, 0), 8);
    }

    /** Ahead of what a text gives stands 500, so that what is below 0 can be read, too. */
    private static void gives(String text, int want) {
        StonesOver x = new StonesOver();
        x.spitter(5, 4);
        Due.is("law " + text, Due.law(x, "500+(" + text + ")"), 1);
        Due.is(text, x.tries(0, 0, 0, 0) - 500, want);
    }

    private static void signsAreWorkedOut() {
        gives("2+3*4", 14);
        gives("20-3-4", 13);
        gives("2*9/4", 4);
        gives("9/4*2", 4);
        gives("-9/4", -2);
        gives("9/-4", -2);
        gives("-9%4", -1);
        gives("9%-4", 1);
        gives("7/0", 0);
        gives("7%0", 0);
        gives("7/a", 0);
        gives("3<4", 1);
        gives("4<3", 0);
        gives("3<3", 0);
        gives("3>3", 0);
        gives("4>3", 1);
        gives("3=3", 1);
        gives("3=4", 0);
        gives("1+2=3", 1);
        gives("2&3", 1);
        gives("2&0", 0);
        gives("0|7", 1);
        gives("0|0", 0);
        gives("1|0&0", 1);
        gives("(1|0)&0", 0);
        gives("2<3&4<5", 1);
        gives("!0", 1);
        gives("!7", 0);
        gives("!!7", 1);
        gives("!0+1", 2);
        gives("-2*3", -6);
        gives("--2", 2);
        gives("-(2+3)", -5);
        gives("2--3", 5);
        gives("!a=1", 1);
        gives("9999*9999*9999*9999*0+1", 1);
        gives("9999*9999*9999%10", 9999 * 9999 * 9999 % 10);
        gives("9999*9999*22>0", 0);
        gives("0012", 12);
    }

    private static void line(String text, int angle, int want) {
        StonesOver x = new StonesOver();
        x.spitter(5, 4);
        Due.is("law " + text, Due.law(x, text), 1);
        Due.is(text + " at " + angle, x.tries(0, 0, 10 * angle, 0), want);
    }

    private static void linesCount() {
        line("5;6", 0, 5);
        line("a?6", 0, 0);
        line("a?6", 1, 6);
        line("a=1?6;a=2?7;8", 1, 6);
        line("a=1?6;a=2?7;8", 2, 7);
        line("a=1?6;a=2?7;8", 3, 8);
        line("a=1?6;a=2?7", 3, 0);
        line("0?6;5;7", 0, 5);
        line("-1?6;5", 0, 6);
        line("0-1?0;5", 0, 0);
    }

    private static void namesAreTold() {
        StonesOver x = new StonesOver();
        x.spitter(5, 4);
        x.spitter(9, 9);
        x.mend(0, 2, 3);
        x.mend(2, 5, 7);
        x.mend(3, 6, 1);
        x.mend(0, 7, -4);
        Due.law(x, "a");
        Due.is("a", x.tries(0, 0, 80, 0), 8);
        Due.law(x, "p");
        Due.is("p", x.tries(0, 0, 40, 0), 9);
        Due.is("p with a run", x.tries(0, 0, 41, 0), 12);
        Due.is("p of another", x.tries(1, 0, 41, 0), 21);
        Due.law(x, "z");
        Due.is("z", x.tries(0, 2000, 40, 0), 7);
        Due.is("z of another", x.tries(0, 3000, 40, 0), 5);
        Due.law(x, "w");
        Due.is("w", x.tries(0, 3000, 40, 0), 1);
        Due.is("w of another", x.tries(0, 2000, 40, 0), 0);
        Due.law(x, "50+e");
        Due.is("e", x.tries(0, 0, 40, 0), 46);
        Due.law(x, "t");
        Due.is("t", x.tries(0, 33, 40, 0), 99);
        Due.is("t with a run", x.tries(0, 33, 41, 0), 99);
        Due.is("t of another", x.tries(1, 33, 41, 0), 33);
    }

    private static void whatItGivesIsHeld() {
        line("9999", 0, 999);
        line("1000", 0, 999);
        line("999", 0, 999);
        line("-1", 0, 0);
        line("9999*9999*22", 0, 0);
        line("9999*9999*43", 0, 999);
    }
}
