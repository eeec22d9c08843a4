/**
 * Long runs of drawn calls on the class and on the Model beside it: each answer must be alike. The draws come
 * from a fixed seed, so that a run that goes wrong does so each time.
 */
public final class OracleTest {
    private static final int RUNS = 2500, CALLS = 512;

    private static long seed;
    private static StonesOver x;
    private static Model m;
    private static int run;
    private static int call;
    private static String pending;
    private static int fed;

    public static void main(String[] args) {
        for (run = 0; run < RUNS; run++) {
            seed = run * 7919L + 1;
            x = new StonesOver();
            m = new Model();
            pending = "";
            fed = 0;
            int lean = draw(0, 6);
            call = 0;
            if (draw(0, 1) == 0) {
                evenSpitters();
            }
            while (call < CALLS) {
                one(lean);
            }
        }
        Due.close("OracleTest");
    }

    /** Spitters of nearly the same strength who slip now and then: among them it is not sure who wins. */
    private static void evenSpitters() {
        int mouth = draw(2, 8), skill = draw(1, 8), n = draw(1, 6);
        for (int i = 0; i < n; i++) {
            int a = mouth + draw(-1, 1), b = skill + draw(-1, 1), slips = draw(0, 12), tires = draw(0, 9);
            same("spitter(" + a + ", " + b + ")", x.spitter(a, b), m.spitter(a, b));
            same("mend(" + i + ", 3, " + slips + ")", x.mend(i, 3, slips), m.mend(i, 3, slips));
            same("mend(" + i + ", 2, " + tires + ")", x.mend(i, 2, tires), m.mend(i, 2, tires));
        }
        for (int i = 0; i < 9; i++) {
            int size = draw(1, 9);
            same("mend(" + i + ", 5, " + size + ")", x.mend(i, 5, size), m.mend(i, 5, size));
        }
    }

    private static int draw(int least, int most) {
        seed = seed * 6364136223846793005L + 1442695040888963407L;
        return least + (int) ((seed >>> 33) % (most - least + 1));
    }

    /** Mostly within the bounds, now and then just beyond them or far off. */
    private static int about(int least, int most) {
        switch (draw(0, 24)) {
            case 0: return least - 1;
            case 1: return most + 1;
            case 2: return draw(0, 1) == 0 ? least : most;
            case 3: return draw(0, 9) == 0 ? new int[] {Integer.MIN_VALUE, Integer.MAX_VALUE, -1, 0}[draw(0, 3)] : most;
            default: return draw(least, most);
        }
    }

    /** Answers behind the 512th call of an object are free. */
    private static void same(String told, long got, long want) {
        call++;
        if (call <= CALLS) {
            Due.is("run " + run + " call " + call + ": " + told, got, want);
        }
    }

    private static int spitter() {
        return about(0, Math.max(0, m.spitters.size() - 1));
    }

    private static int sk() {
        int k = draw(0, 3) == 0 ? about(0, 99) : draw(0, 12);
        return 1000 * about(0, 8) + k;
    }

    private static int how() {
        return 10 * about(0, 8) + (draw(0, 30) == 0 ? draw(2, 9) : draw(0, 1));
    }

    private static int nr() {
        return 10 * about(1, 9) + (draw(0, 30) == 0 ? draw(2, 9) : draw(0, 1));
    }

    /** Points that are near to what the tries of a spitter have, so that chances are neither none nor sure. */
    private static int points(int s, int sk) {
        int which = draw(0, 7);
        if (which < 2) {
            return which == 0 ? about(0, 999) : draw(0, 60);
        }
        return Math.max(0, m.tries(s, sk, 10 * draw(0, 8) + 1, 2) - draw(0, 5));
    }

    private static int shelf() {
        return draw(0, 30) == 0 ? about(0, 5) : draw(0, 5);
    }

    private static void one(int lean) {
        int which = draw(0, 99);
        if (m.spitters.size() < 2 && draw(0, 2) == 0) {
            which = 0;
        }
        if (lean == 1 && draw(0, 1) == 0) {
            which = draw(6, 9);
        }
        if (which < 20) {
            beginning(which);
        } else if (which < 40) {
            thinking(which);
        } else if (which < 58) {
            matching(which);
        } else if (which < 76) {
            doing(which);
        } else {
            shelving(which);
        }
    }

    private static void beginning(int which) {
        if (which < 1) {
            int a = about(1, 9), b = about(0, 9);
            same("spitter(" + a + ", " + b + ")", x.spitter(a, b), m.spitter(a, b));
        } else if (which < 2) {
            int a = shelf(), b = about(0, 20), c = about(1, 6);
            same("spitters(" + a + ", " + b + ", " + c + ")", x.spitters(a, b, c), m.spitters(a, b, c));
        } else if (which < 6 || which > 17) {
            mending();
        } else if (which < 9) {
            feeding();
        } else if (which < 10 && (pending.isEmpty() || draw(0, 20) == 0)) {
            same("law()", x.law(), m.law());
            pending = "";
            fed = 0;
        } else {
            int a = draw(0, 9), b = about(0, 12);
            same("of(" + a + ", " + b + ")", x.of(a, b), m.of(a, b));
        }
    }

    private static void mending() {
        int what = about(0, 12);
        int number = what < 5 ? spitter() : what < 7 ? about(0, 8) : about(0, 0);
        int[] least = {1, 0, 0, 0, 1, 1, 0, -9, 0, 0, 0, -1, 0};
        int[] most = {9, 9, 9, 12, 20, 9, 1, 9, 999, 999, 20, 999, 12};
        int v = what < 0 || what > 12 ? draw(0, 5) : about(least[what], most[what]);
        if ((what == 8 || what == 9 || what == 11) && draw(0, 2) > 0) {
            v = draw(0, 300);
        }
        same("mend(" + number + ", " + what + ", " + v + ")", x.mend(number, what, v), m.mend(number, what, v));
    }

    /** Feeds a text a few bytes a call, so that others come between. */
    private static void feeding() {
        if (pending.isEmpty()) {
            pending = text();
            fed = 0;
        }
        int letter = draw(0, 400) == 0 ? about(0, 255) : pending.charAt(fed);
        same("feed(" + letter + ")", x.feed(letter), m.feed(letter));
        fed++;
        if (fed == pending.length()) {
            same("law()", x.law(), m.law());
            pending = "";
            fed = 0;
        } else if (draw(0, 3) > 0) {
            feeding();
        }
    }

    private static String text() {
        StringBuilder b = new StringBuilder();
        int lines = draw(1, 4);
        for (int i = 0; i < lines; i++) {
            if (i > 0) {
                b.append(';');
            }
            either(b, 0);
            if (draw(0, 1) == 0) {
                b.append('?');
                either(b, 0);
            }
        }
        if (draw(0, 3) == 0) {
            b.setCharAt(draw(0, b.length() - 1), "apzwet0123456789+-*/%()!<=>&|?; b".charAt(draw(0, 32)));
        }
        if (draw(0, 12) == 0) {
            b.setLength(draw(1, b.length()));
        }
        return b.toString();
    }

    private static void either(StringBuilder b, int depth) {
        String signs = "++++----****///%%%<=>&|";
        operand(b, depth);
        int more = depth == 0 ? draw(1, 5) : draw(0, 2);
        for (int i = 0; i < more && b.length() < 110; i++) {
            b.append(signs.charAt(draw(0, signs.length() - 1)));
            operand(b, depth);
        }
    }

    private static void operand(StringBuilder b, int depth) {
        int which = draw(0, 11);
        if (which < 6 || b.length() > 100 || depth > 6) {
            b.append("ppapzwet".charAt(draw(0, 7)));
        } else if (which < 8) {
            b.append(draw(0, 30) == 0 ? draw(0, 99999) : draw(0, 30));
        } else if (which < 10) {
            b.append('(');
            either(b, depth + 1);
            b.append(')');
        } else {
            b.append(which == 10 ? '!' : '-');
            operand(b, depth + 1);
        }
    }

    private static void thinking(int which) {
        int s = spitter(), sk = sk();
        if (which < 25) {
            int how = how(), what = about(0, 2);
            same("tries(" + s + ", " + sk + ", " + how + ", " + what + ")", x.tries(s, sk, how, what), m.tries(s, sk, how, what));
        } else if (which < 28) {
            int what = about(0, 2);
            same("angle(" + s + ", " + sk + ", " + what + ")", x.angle(s, sk, what), m.angle(s, sk, what));
        } else if (which < 30) {
            int set = draw(0, 8) == 0 ? about(0, 511) : draw(0, 511) & draw(0, 511);
            int sr = 10 * set + (draw(0, 30) == 0 ? draw(2, 9) : draw(0, 1)), k = about(0, 99), i = about(-1, 5);
            same("order(" + s + ", " + sr + ", " + k + ", " + i + ")", x.order(s, sr, k, i), m.order(s, sr, k, i));
        } else if (which < 33) {
            int xr = 10 * points(s, sk) + (draw(0, 30) == 0 ? draw(2, 9) : draw(0, 1)), part = about(0, 1);
            same("risk(" + s + ", " + sk + ", " + xr + ", " + part + ")", x.risk(s, sk, xr, part), m.risk(s, sk, xr, part));
        } else if (which < 36) {
            int xn = 10 * points(s, sk) + draw(0, 9), part = about(0, 2);
            same("risks(" + s + ", " + sk + ", " + xn + ", " + part + ")", x.risks(s, sk, xn, part), m.risks(s, sk, xn, part));
        } else {
            int p = points(s, sk), what = about(0, 1);
            same("practice(" + s + ", " + sk + ", " + p + ", " + what + ")", x.practice(s, sk, p, what), m.practice(s, sk, p, what));
        }
    }

    private static void layMatch(int shelf) {
        int n = draw(0, 7);
        same("row", x.row(shelf, 0, n), m.row(shelf, 0, n));
        for (int i = 0; i < n; i++) {
            int v = draw(0, 12) == 0 ? draw(-1, 6) : (i + shelf) % Math.max(1, m.spitters.size());
            same("put", x.put(shelf, i, v), m.put(shelf, i, v));
        }
    }

    /** Marks that somebody may have left, sometimes with a wrong one among them. */
    private static void layMarks(int shelf) {
        int n = draw(0, 12), s = draw(0, 5), angle = draw(0, 8), k = draw(0, 2) * draw(0, 40);
        same("row", x.row(shelf, 1, n), m.row(shelf, 1, n));
        for (int i = 0; i < n; i++) {
            int mark = Math.max(0, m.tries(s, i % 9 * 1000 + Math.min(99, k + i), angle * 10, 1));
            int v = draw(0, 20) == 0 ? mark + draw(-1, 1) : mark;
            same("put", x.put(shelf, i, v), m.put(shelf, i, v));
        }
    }

    private static void matching(int which) {
        int shelf = shelf(), nr = nr(), s = spitter();
        if (shelf >= 0 && shelf < 6 && draw(0, 3) == 0) {
            if (which < 52) {
                layMatch(shelf);
            } else {
                layMarks(shelf);
            }
        }
        String on = shelf + ", " + nr;
        if (which < 42) {
            int i = about(0, 3);
            same("match(" + on + ", " + i + ")", x.match(shelf, nr, i), m.match(shelf, nr, i));
        } else if (which < 44) {
            same("winner(" + on + ")", x.winner(shelf, nr), m.winner(shelf, nr));
        } else if (which < 46) {
            int small = draw(0, 5) > 0 ? Math.min(nr, 50 + draw(0, 1)) : nr;
            for (int part = -1; part < 4; part++) {
                same("last(" + shelf + ", " + small + ", " + part + ")", x.last(shelf, small, part), m.last(shelf, small, part));
            }
        } else if (which < 49) {
            same("place(" + on + ", " + s + ")", x.place(shelf, nr, s), m.place(shelf, nr, s));
        } else if (which < 52) {
            same("handicap(" + on + ", " + s + ")", x.handicap(shelf, nr, s), m.handicap(shelf, nr, s));
        } else if (which < 54) {
            int sa = 10 * s + (draw(0, 20) == 0 ? 9 : draw(0, 8));
            same("judge(" + shelf + ", " + sa + ")", x.judge(shelf, sa), m.judge(shelf, sa));
        } else if (which < 56) {
            int what = about(0, 1);
            same("who(" + shelf + ", " + what + ")", x.who(shelf, what), m.who(shelf, what));
        } else {
            int sa = 10 * s + (draw(0, 20) == 0 ? 9 : draw(0, 8));
            same("ahead(" + shelf + ", " + sa + ")", x.ahead(shelf, sa), m.ahead(shelf, sa));
        }
    }

    private static void doing(int which) {
        int s = spitter();
        if (which < 60) {
            int sk = sk(), z = about(-1000000, 1000000), n = draw(0, 2) == 0 ? about(1, 99) : draw(1, 12);
            int nw = 100 * n + 10 * draw(0, 1) + draw(0, 1) + (draw(0, 30) == 0 ? draw(2, 88) : 0);
            same("drawn(" + s + ", " + sk + ", " + z + ", " + nw + ")", x.drawn(s, sk, z, nw), m.drawn(s, sk, z, nw));
        } else if (which < 64) {
            int stone = about(0, 8), how = how();
            same("spit(" + s + ", " + stone + ", " + how + ")", x.spit(s, stone, how), m.spit(s, stone, how));
        } else if (which < 67) {
            int what = about(0, 5), number = what > 2 && draw(0, 9) > 0 ? 0 : s;
            same("led(" + number + ", " + what + ")", x.led(number, what), m.led(number, what));
        } else if (which < 69) {
            same("undo()", x.undo(), m.undo());
        } else if (which < 71) {
            same("redo()", x.redo(), m.redo());
        } else if (which < 73) {
            same("steps(" + s + ", 321)", x.steps(s, 321), m.steps(s, 321));
            int d = about(0, 999), n = draw(0, 20) == 0 ? about(0, 999) : d / draw(1, 20);
            same("whose(" + d + ", " + n + ")", x.whose(d, n), m.whose(d, n));
            same("steps(" + s + ", " + d + ")", x.steps(s, d), m.steps(s, d));
        } else if (draw(0, 2) == 0) {
            same("rest()", x.rest(), m.rest());
        } else if (draw(0, 1) == 0) {
            same("image()", x.image(), m.image());
        } else {
            same("back()", x.back(), m.back());
        }
    }

    private static void shelving(int which) {
        int shelf = shelf(), other = shelf();
        if (which < 78) {
            int kind = about(0, 7);
            same("body(" + kind + ")", x.body(kind), m.body(kind));
        } else if (which < 81) {
            int b = about(0, Math.max(0, m.bodies.size() - 1)), act = about(0, 3);
            int v = draw(0, 3) == 0 ? about(Integer.MIN_VALUE + 1, Integer.MIN_VALUE + 9) : draw(-50, 50);
            same("act(" + b + ", " + act + ", " + v + ")", x.act(b, act, v), m.act(b, act, v));
            for (int i = -1; i < 26; i++) {
                same("trace(" + i + ")", x.trace(i), m.trace(i));
            }
        } else if (which < 83) {
            int b = about(-1, m.bodies.size() - 1);
            same("keep(" + shelf + ", " + b + ")", x.keep(shelf, b), m.keep(shelf, b));
        } else if (which < 85) {
            int sort = about(0, 4), n = draw(0, 2) == 0 ? about(0, 60) : about(0, 8);
            same("row(" + shelf + ", " + sort + ", " + n + ")", x.row(shelf, sort, n), m.row(shelf, sort, n));
        } else if (which < 89) {
            int i = about(0, 8);
            long v = draw(0, 1) == 0 ? draw(0, 9) : (long) draw(-99999, 99999) * draw(-99999, 99999) * draw(1, 99999);
            same("put(" + shelf + ", " + i + ", " + v + ")", x.put(shelf, i, v), m.put(shelf, i, v));
            same("element(" + shelf + ", " + i + ")", x.element(shelf, i), m.element(shelf, i));
        } else if (which < 92) {
            int i = about(0, 8);
            same("element(" + shelf + ", " + i + ")", x.element(shelf, i), m.element(shelf, i));
        } else if (which < 95) {
            int i = about(0, 4), j = about(0, 4), n = about(0, 4), to = draw(0, 3) == 0 ? shelf : other;
            same("shift(" + shelf + ", " + i + ", " + to + ", " + j + ", " + n + ")",
                    x.shift(shelf, i, to, j, n), m.shift(shelf, i, to, j, n));
        } else if (which < 97) {
            int k = about(0, 7);
            same("taken(" + shelf + ", " + k + ")", x.taken(shelf, k), m.taken(shelf, k));
        } else {
            int what = about(0, 4);
            same("count(" + what + ")", x.count(what), m.count(what));
        }
    }
}
