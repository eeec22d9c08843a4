import java.math.BigInteger;
import java.util.ArrayDeque;
import java.util.ArrayList;
import java.util.Deque;
import java.util.HashMap;
import java.util.List;
import java.util.Map;

/**
 * The document once more, in another way than the class has it: orders by trying all of them, chances by
 * trying all slips, a law by walking its text, acts by real classes with super. OracleTest sets the two
 * beside each other.
 */
final class Model {
    static final long MIN = Long.MIN_VALUE;
    static final int BAD = -1, NOT = -2, FULL = -3, STATE = -5, VOID = -2000000000;
    static final BigInteger ZERO = BigInteger.ZERO, ONE = BigInteger.ONE;

    static final class Spitter {
        int mouth, skill, tires = 1, slips = 0, step = 10;
        int points = 0, best = NOT, since = 0;
    }

    static final class Stone {
        int size = 5, wet = 0;
    }

    record Change(int number, int what, int before, int after) {
    }

    record Fraction(BigInteger above, BigInteger below) {
        static Fraction of(long a, long b) {
            return new Fraction(BigInteger.valueOf(a), BigInteger.valueOf(b));
        }
        int against(Fraction o) {
            return above.multiply(o.below).compareTo(o.above.multiply(below));
        }
        long part(int part) {
            BigInteger g = above.gcd(below);
            return (part == 0 ? above : below).divide(g).longValueExact();
        }
        /** this, or (if it fails) the other. */
        Fraction orElse(Fraction o) {
            BigInteger fail = below.subtract(above).multiply(o.below.subtract(o.above));
            BigInteger all = below.multiply(o.below);
            return new Fraction(all.subtract(fail), all);
        }
    }

    final List<Spitter> spitters = new ArrayList<>();
    final Stone[] stones = new Stone[9];
    int wind = 0, grass = 999, barrel = 400, rim = 5, hen = -1, laughs = 0;
    int tries = 0, hens = 0, barrels = 0;
    String tape = "";
    String law = null;
    final Deque<Change> undoable = new ArrayDeque<>();
    final Deque<Change> redoable = new ArrayDeque<>();
    List<int[]> picture = null;
    final List<Integer> bodies = new ArrayList<>();
    final List<Integer> ran = new ArrayList<>();
    final Object[] shelves = new Object[6];

    Model() {
        for (int i = 0; i < 9; i++) {
            stones[i] = new Stone();
        }
    }

    // ---- 1

    static boolean in(long v, long a, long b) {
        return a <= v && v <= b;
    }

    boolean isSpitter(int s) {
        return in(s, 0, spitters.size() - 1);
    }

    int spitter(int mouth, int skill) {
        if (!in(mouth, 1, 9) || !in(skill, 0, 9)) {
            return BAD;
        }
        if (spitters.size() == 6) {
            return FULL;
        }
        Spitter s = new Spitter();
        s.mouth = mouth;
        s.skill = skill;
        spitters.add(s);
        return spitters.size() - 1;
    }

    int spitters(int shelf, int i, int n) {
        if (!in(shelf, 0, 5) || !in(n, 1, 6)) {
            return BAD;
        }
        Object held = shelves[shelf];
        if (held == null) {
            return 0;
        }
        if (!(held instanceof byte[])) {
            return -12;
        }
        byte[] row = (byte[]) held;
        int came = 0;
        for (long at = i; came < n; at += 3, came++) {
            if (!in(at, 0, row.length - 3) || spitters.size() == 6) {
                break;
            }
            int mouth = row[(int) at], skill = row[(int) at + 1], tires = row[(int) at + 2];
            if (!in(mouth, 1, 9) || !in(skill, 0, 9) || !in(tires, 0, 9)) {
                break;
            }
            Spitter s = new Spitter();
            s.mouth = mouth;
            s.skill = skill;
            s.tires = tires;
            spitters.add(s);
        }
        return came;
    }

    int of(int number, int what) {
        if (in(what, 0, 4) && isSpitter(number)) {
            Spitter s = spitters.get(number);
            return new int[] {s.mouth, s.skill, s.tires, s.slips, s.step}[what];
        }
        if (in(what, 5, 6) && in(number, 0, 8)) {
            return what == 5 ? stones[number].size : stones[number].wet;
        }
        if (in(what, 7, 12) && number == 0) {
            return new int[] {wind, grass, barrel, rim, hen, laughs}[what - 7];
        }
        return VOID;
    }

    static boolean may(int what, int v) {
        switch (what) {
            case 0: case 5: return in(v, 1, 9);
            case 1: case 2: return in(v, 0, 9);
            case 3: case 12: return in(v, 0, 12);
            case 4: return in(v, 1, 20);
            case 6: return in(v, 0, 1);
            case 7: return in(v, -9, 9);
            case 8: case 9: return in(v, 0, 999);
            case 10: return in(v, 0, 20);
            case 11: return in(v, -1, 999);
            default: return false;
        }
    }

    void set(int number, int what, int v) {
        switch (what) {
            case 0: spitters.get(number).mouth = v; break;
            case 1: spitters.get(number).skill = v; break;
            case 2: spitters.get(number).tires = v; break;
            case 3: spitters.get(number).slips = v; break;
            case 4: spitters.get(number).step = v; break;
            case 5: stones[number].size = v; break;
            case 6: stones[number].wet = v; break;
            case 7: wind = v; break;
            case 8: grass = v; break;
            case 9: barrel = v; break;
            case 10: rim = v; break;
            case 11: hen = v; break;
            default: laughs = v; break;
        }
    }

    int mend(int number, int what, int v) {
        int was = of(number, what);
        if (was == VOID || !may(what, v)) {
            return VOID;
        }
        if (was != v) {
            set(number, what, v);
            undoable.addLast(new Change(number, what, was, v));
            if (undoable.size() > 40) {
                undoable.removeFirst();
            }
            redoable.clear();
        }
        return was;
    }

    int feed(int letter) {
        if (!in(letter, 0, 255)) {
            return BAD;
        }
        if (tape.length() == 120) {
            return FULL;
        }
        tape += (char) letter;
        return tape.length();
    }

    int law() {
        int fault = faultOf(tape);
        if (fault < 0) {
            law = tape;
        }
        tape = "";
        return fault < 0 ? 1 : -100 - fault;
    }

    /**
     * The first place with which no TEXT goes on; -1: it is a TEXT. No descent: a walk with a pile of what is
     * open, where each ( keeps whether a comparison has been met beside it.
     */
    static int faultOf(String text) {
        StringBuilder open = new StringBuilder();   // ( ! - that are open, in their order
        Deque<Boolean> compared = new ArrayDeque<>();
        compared.push(false);
        boolean wantsOperand = true, asked = false;
        int digits = 0;
        for (int i = 0; i < text.length(); i++) {
            char c = text.charAt(i);
            if (wantsOperand) {
                if ("apzwet".indexOf(c) >= 0 || in(c, '0', '9')) {
                    digits = in(c, '0', '9') ? 1 : 9;
                    wantsOperand = false;
                } else if ((c == '(' || c == '!' || c == '-') && open.length() < 6) {
                    open.append(c);
                    if (c == '(') {
                        compared.push(false);
                    }
                    continue;
                } else {
                    return i;
                }
            } else if (in(c, '0', '9')) {
                digits++;
                if (digits > 4) {
                    return i;
                }
            } else {
                digits = 9;
                boolean inside = open.indexOf("(") >= 0;
                if (c == ')') {
                    if (!inside) {
                        return i;
                    }
                    open.setLength(open.length() - 1);
                    compared.pop();
                } else if (c == '<' || c == '=' || c == '>') {
                    if (compared.pop()) {
                        return i;
                    }
                    compared.push(true);
                    wantsOperand = true;
                } else if (c == '|' || c == '&') {
                    compared.pop();
                    compared.push(false);
                    wantsOperand = true;
                } else if ("+-*/%".indexOf(c) >= 0) {
                    wantsOperand = true;
                } else if ((c == '?' && !asked || c == ';') && !inside) {
                    asked = c == '?';
                    compared.pop();
                    compared.push(false);
                    wantsOperand = true;
                } else {
                    return i;
                }
            }
            // What was signed is whole as soon as its O is: only an open ( waits longer.
            if (!wantsOperand) {
                while (open.length() > 0 && open.charAt(open.length() - 1) != '(') {
                    open.setLength(open.length() - 1);
                }
            }
        }
        return wantsOperand || open.indexOf("(") >= 0 ? text.length() : -1;
    }

    /** Works a TEXT out, line by line, by splitting it at the weakest sign outside of brackets. */
    static int worth(String text, Map<Character, Integer> names) {
        for (String line : text.split(";")) {
            int ask = line.indexOf('?');
            if (ask < 0) {
                return value(line, names);
            }
            if (value(line.substring(0, ask), names) != 0) {
                return value(line.substring(ask + 1), names);
            }
        }
        return 0;
    }

    private static final String[] SIGNS = {"|", "&", "<=>", "+-", "*/%"};

    static int value(String e, Map<Character, Integer> names) {
        for (String signs : SIGNS) {
            int at = lastOutside(e, signs);
            if (at > 0) {
                return joined(e.charAt(at), value(e.substring(0, at), names), value(e.substring(at + 1), names));
            }
        }
        char c = e.charAt(0);
        if (c == '!') {
            return value(e.substring(1), names) == 0 ? 1 : 0;
        }
        if (c == '-') {
            return -value(e.substring(1), names);
        }
        if (c == '(') {
            return value(e.substring(1, e.length() - 1), names);
        }
        return names.containsKey(c) ? names.get(c) : Integer.parseInt(e);
    }

    /** The last sign of these that stands between two operands, outside of brackets; -1: none. */
    static int lastOutside(String e, String signs) {
        int open = 0;
        for (int i = e.length() - 1; i > 0; i--) {
            char c = e.charAt(i);
            open += c == ')' ? 1 : c == '(' ? -1 : 0;
            if (open == 0 && signs.indexOf(c) >= 0) {
                char before = e.charAt(i - 1);
                if (before == ')' || "apzwet".indexOf(before) >= 0 || in(before, '0', '9')) {
                    return i;
                }
            }
        }
        return -1;
    }

    static int joined(char sign, int l, int r) {
        switch (sign) {
            case '|': return l != 0 || r != 0 ? 1 : 0;
            case '&': return l != 0 && r != 0 ? 1 : 0;
            case '<': return l < r ? 1 : 0;
            case '=': return l == r ? 1 : 0;
            case '>': return l > r ? 1 : 0;
            case '+': return l + r;
            case '-': return l - r;
            case '*': return l * r;
            case '/': return r == 0 ? 0 : l / r;
            default: return r == 0 ? 0 : l % r;
        }
    }

    /** How far a try lands: strength is MOUTH and SKILL, size the stone's, as a plan may have them. */
    int lands(Spitter s, int strength, int stone, int size, int k, int angle, int run) {
        int p = strength + 3 * run;
        int t = s.tires * k;
        int far;
        if (law == null) {
            int from4 = angle > 4 ? angle - 4 : 4 - angle;
            far = p * (9 - from4) * 2 + 6 * stones[stone].wet - size * size / 2 + wind * angle - t;
        } else {
            Map<Character, Integer> names = new HashMap<>();
            names.put('a', angle);
            names.put('p', p);
            names.put('z', size);
            names.put('w', stones[stone].wet);
            names.put('e', wind);
            names.put('t', t);
            far = worth(law, names);
        }
        return far < 0 ? 0 : far > 999 ? 999 : far;
    }

    int lands(int s, int stone, int k, int angle, int run) {
        Spitter it = spitters.get(s);
        return lands(it, it.mouth + it.skill, stone, stones[stone].size, k, angle, run);
    }

    boolean barrelled(int lands) {
        return in(lands, barrel - rim, barrel + rim);
    }

    int stops(int lands) {
        if (barrelled(lands)) {
            return lands;
        }
        int stops = lands;
        for (int roll = 0; roll < lands / 10 && stops < grass; roll++) {
            stops++;
        }
        return stops;
    }

    int points(int lands) {
        if (hen >= 0 && lands == hen) {
            return 0;
        }
        return stops(lands) / 10 + (barrelled(lands) ? 30 : 0);
    }

    int bestPoints(Spitter s, int strength, int stone, int size, int k, int run) {
        int best = 0;
        for (int a = 0; a <= 8; a++) {
            best = Math.max(best, points(lands(s, strength, stone, size, k, a, run)));
        }
        return best;
    }

    int bestPoints(int s, int stone, int k, int run) {
        Spitter it = spitters.get(s);
        return bestPoints(it, it.mouth + it.skill, stone, stones[stone].size, k, run);
    }

    // ---- 2

    static boolean isSk(int sk) {
        return in(sk, 0, 8099) && sk % 1000 < 100;
    }

    static boolean isHow(int how) {
        return in(how, 0, 81) && how % 10 < 2;
    }

    int tries(int s, int sk, int how, int what) {
        if (!isSpitter(s) || !isSk(sk) || !isHow(how) || !in(what, 0, 2)) {
            return BAD;
        }
        int lands = lands(s, sk / 1000, sk % 1000, how / 10, how % 10);
        return new int[] {lands, stops(lands), points(lands)}[what];
    }

    int angle(int s, int sk, int what) {
        if (!isSpitter(s) || !isSk(sk) || !in(what, 0, 2)) {
            return BAD;
        }
        int best = -1, answer = -1;
        for (int how = 0; how <= 81; how++) {
            if (isHow(how) && (what == 2 || how % 10 == 0)) {
                int worth = tries(s, sk, how, what == 0 ? 1 : 2);
                if (worth > best) {
                    best = worth;
                    answer = what == 2 ? how : how / 10;
                }
            }
        }
        return answer;
    }

    int order(int s, int sr, int k, int i) {
        if (!isSpitter(s) || !in(sr, 0, 5111) || sr % 10 > 1 || !in(k, 0, 99) || i < -1) {
            return BAD;
        }
        List<Integer> set = new ArrayList<>();
        for (int stone = 0; stone < 9; stone++) {
            if ((sr / 10 & 1 << stone) != 0) {
                set.add(stone);
            }
        }
        if (set.size() > 7) {
            return STATE;
        }
        int[][] worth = new int[9][set.size()];
        for (int stone : set) {
            for (int turn = 0; turn < set.size(); turn++) {
                worth[stone][turn] = bestPoints(s, stone, k + turn, 0);
            }
        }
        int[] best = {-1};
        List<Integer> first = new ArrayList<>();
        tryOrders(new ArrayList<>(), set, sr % 10, worth, best, first);
        if (i == -1) {
            return best[0];
        }
        return i < first.size() ? first.get(i) : NOT;
    }

    static void tryOrders(List<Integer> so, List<Integer> set, int rule, int[][] worth, int[] best, List<Integer> first) {
        if (so.size() == set.size()) {
            int all = 0;
            for (int turn = 0; turn < so.size(); turn++) {
                int one = worth[so.get(turn)][turn];
                all = rule == 0 ? Math.max(all, one) : all + one;
            }
            if (all > best[0]) {
                best[0] = all;
                first.clear();
                first.addAll(so);
            }
            return;
        }
        for (int stone : set) {
            if (!so.contains(stone)) {
                so.add(stone);
                tryOrders(so, set, rule, worth, best, first);
                so.remove(so.size() - 1);
            }
        }
    }

    Fraction chance(int s, int stone, int k, int x, int run) {
        if (bestPoints(s, stone, k, run) <= x) {
            return Fraction.of(0, 12);
        }
        return Fraction.of(run == 1 ? 12 - spitters.get(s).slips : 12, 12);
    }

    long risk(int s, int sk, int xr, int part) {
        if (!isSpitter(s) || !isSk(sk) || !in(xr, 0, 9991) || xr % 10 > 1 || !in(part, 0, 1)) {
            return MIN;
        }
        return chance(s, sk / 1000, sk % 1000, xr / 10, xr % 10).part(part);
    }

    /** The greatest chance with n tries left. */
    Fraction greatest(int s, int stone, int k, int x, int n) {
        if (n == 0) {
            return Fraction.of(0, 1);
        }
        Fraction then = greatest(s, stone, k + 1, x, n - 1);
        Fraction without = chance(s, stone, k, x, 0).orElse(then);
        Fraction with = chance(s, stone, k, x, 1).orElse(then);
        return with.against(without) > 0 ? with : without;
    }

    long risks(int s, int sk, int xn, int part) {
        if (!isSpitter(s) || !isSk(sk) || !in(xn, 1, 9999) || xn % 10 == 0 || !in(part, 0, 2)) {
            return MIN;
        }
        int stone = sk / 1000, k = sk % 1000, x = xn / 10, n = xn % 10;
        if (part < 2) {
            return greatest(s, stone, k, x, n).part(part);
        }
        Fraction then = greatest(s, stone, k + 1, x, n - 1);
        Fraction without = chance(s, stone, k, x, 0).orElse(then);
        return chance(s, stone, k, x, 1).orElse(then).against(without) > 0 ? 1 : 0;
    }

    int practice(int s, int sk, int x, int what) {
        if (!isSpitter(s) || !isSk(sk) || !in(x, 0, 999) || !in(what, 0, 1)) {
            return BAD;
        }
        Spitter it = spitters.get(s);
        for (int v = what; v <= 9; v++) {
            int strength = what == 0 ? it.mouth + v : v + it.skill;
            int stone = sk / 1000;
            if (bestPoints(it, strength, stone, stones[stone].size, sk % 1000, 0) >= x) {
                return v;
            }
        }
        return NOT;
    }

    // ---- 3

    static boolean isNr(int nr) {
        return in(nr, 10, 91) && nr % 10 < 2;
    }

    int rowRefusal(int shelf, boolean fine, Class<?> sort) {
        if (!in(shelf, 0, 5) || !fine) {
            return BAD;
        }
        if (shelves[shelf] == null) {
            return -11;
        }
        return sort.isInstance(shelves[shelf]) ? 0 : -12;
    }

    List<Integer> who(int shelf) {
        List<Integer> who = new ArrayList<>();
        for (byte b : (byte[]) shelves[shelf]) {
            if (!isSpitter(b) || who.contains((int) b)) {
                break;
            }
            who.add((int) b);
        }
        return who;
    }

    int score(int s, int nr, int larger) {
        Spitter it = spitters.get(s);
        int score = 0;
        for (int stone = 0; stone < nr / 10; stone++) {
            int size = Math.min(9, stones[stone].size + larger);
            int one = bestPoints(it, it.mouth + it.skill, stone, size, stone, 0);
            score = nr % 10 == 0 ? Math.max(score, one) : score + one;
        }
        return score;
    }

    int match(int shelf, int nr, int i) {
        int no = rowRefusal(shelf, isNr(nr) && i >= 0, byte[].class);
        if (no != 0) {
            return no;
        }
        List<Integer> who = who(shelf);
        return i < who.size() ? score(who.get(i), nr, 0) : NOT;
    }

    int winnerOf(List<Integer> who, int nr, int heavy, int larger) {
        int first = NOT, most = -1;
        for (int s : who) {
            int score = score(s, nr, s == heavy ? larger : 0);
            if (score > most) {
                most = score;
                first = s;
            }
        }
        return first;
    }

    int winner(int shelf, int nr) {
        int no = rowRefusal(shelf, isNr(nr), byte[].class);
        return no != 0 ? no : winnerOf(who(shelf), nr, -1, 0);
    }

    long last(int shelf, int nr, int part) {
        int no = rowRefusal(shelf, isNr(nr) && in(part, 0, 2), byte[].class);
        if (no != 0) {
            return MIN;
        }
        List<Integer> who = who(shelf);
        if (who.isEmpty()) {
            return NOT;
        }
        int n = nr / 10;
        int own = who.get(who.size() - 1);
        int slips = spitters.get(own).slips;
        int[][] worth = new int[n][2];
        int[] others = new int[who.size() - 1];
        for (int stone = 0; stone < n; stone++) {
            worth[stone][0] = bestPoints(own, stone, stone, 0);
            worth[stone][1] = bestPoints(own, stone, stone, 1);
        }
        for (int i = 0; i < others.length; i++) {
            others[i] = score(who.get(i), nr, 0);
        }
        BigInteger best = BigInteger.valueOf(-1);
        int bits = 0;
        BigInteger all = BigInteger.valueOf(12).pow(n);
        for (int runs = 0; runs < 1 << n; runs++) {
            BigInteger weight = ZERO;
            for (int slipped = 0; slipped < 1 << n; slipped++) {
                if ((slipped & ~runs) == 0) {
                    weight = weight.add(weightOf(worth, others, nr, runs, slipped, slips));
                }
            }
            if (weight.compareTo(best) > 0) {
                best = weight;
                bits = runs;
            }
        }
        return part == 2 ? bits : new Fraction(best, all).part(part);
    }

    static BigInteger weightOf(int[][] worth, int[] others, int nr, int runs, int slipped, int slips) {
        long weight = 1;
        int score = 0;
        for (int stone = 0; stone < worth.length; stone++) {
            boolean run = (runs >> stone & 1) == 1, slip = (slipped >> stone & 1) == 1;
            weight *= !run ? 12 : slip ? slips : 12 - slips;
            int one = slip ? 0 : worth[stone][run ? 1 : 0];
            score = nr % 10 == 0 ? Math.max(score, one) : score + one;
        }
        for (int other : others) {
            if (score <= other) {
                return ZERO;
            }
        }
        return BigInteger.valueOf(weight);
    }

    int place(int shelf, int nr, int s) {
        int no = rowRefusal(shelf, isNr(nr) && isSpitter(s), byte[].class);
        if (no != 0) {
            return no;
        }
        List<Integer> who = who(shelf);
        if (!who.contains(s)) {
            return NOT;
        }
        for (int place = who.size() - 1; place >= 0; place--) {
            List<Integer> so = new ArrayList<>(who);
            so.remove((Integer) s);
            so.add(place, s);
            if (winnerOf(so, nr, -1, 0) == s) {
                return place;
            }
        }
        return NOT;
    }

    int handicap(int shelf, int nr, int s) {
        int no = rowRefusal(shelf, isNr(nr) && isSpitter(s), byte[].class);
        if (no != 0) {
            return no;
        }
        List<Integer> who = who(shelf);
        for (int larger = 0; larger <= 8; larger++) {
            if (winnerOf(who, nr, s, larger) != s) {
                return larger;
            }
        }
        return NOT;
    }

    int steps(int s, int x) {
        return isSpitter(s) && in(x, 0, 999) ? x / spitters.get(s).step : BAD;
    }

    int whose(int x, int n) {
        if (!in(x, 0, 999) || !in(n, 0, 999)) {
            return BAD;
        }
        int bits = 0;
        for (int s = 0; s < spitters.size(); s++) {
            if (steps(s, x) == n) {
                bits += 1 << s;
            }
        }
        return bits;
    }

    int unlike(short[] marks, int s, int angle, int k) {
        for (int i = 0; i < marks.length; i++) {
            if (stops(lands(s, i % 9, k + i, angle, 0)) != marks[i]) {
                return i;
            }
        }
        return NOT;
    }

    boolean isSa(int sa) {
        return sa >= 0 && isSpitter(sa / 10) && sa % 10 < 9;
    }

    int judge(int shelf, int sa) {
        int no = rowRefusal(shelf, isSa(sa), short[].class);
        return no != 0 ? no : unlike((short[]) shelves[shelf], sa / 10, sa % 10, 0);
    }

    int who(int shelf, int what) {
        int no = rowRefusal(shelf, in(what, 0, 1), short[].class);
        if (no != 0) {
            return no;
        }
        List<Integer> may = new ArrayList<>();
        for (int sa = 0; sa < 60; sa++) {
            if (isSa(sa) && unlike((short[]) shelves[shelf], sa / 10, sa % 10, 0) == NOT) {
                may.add(sa);
            }
        }
        return what == 0 ? may.size() : may.isEmpty() ? NOT : may.get(0);
    }

    int ahead(int shelf, int sa) {
        int no = rowRefusal(shelf, isSa(sa), short[].class);
        if (no != 0) {
            return no;
        }
        int k = 0;
        while (k < 100 && unlike((short[]) shelves[shelf], sa / 10, sa % 10, k) != NOT) {
            k++;
        }
        return k < 100 ? k : NOT;
    }

    // ---- 4

    int drawn(int s, int sk, int seed, int nw) {
        if (!isSpitter(s) || !isSk(sk) || !in(nw, 100, 9911) || nw % 100 / 10 > 1 || nw % 10 > 1) {
            return BAD;
        }
        int run = nw % 100 / 10, n = nw / 100;
        List<Integer> points = new ArrayList<>();
        long z = seed & 0xFFFFFFFFL;
        for (int i = 0; i < n; i++) {
            z = z * 1103515245L + 12345L & 0xFFFFFFFFL;
            boolean nought = z / 65536 % 12 < laughs || run == 1 && z / 256 % 12 < spitters.get(s).slips;
            points.add(nought ? 0 : bestPoints(s, sk / 1000, sk % 1000 + i, run));
        }
        return nw % 10 == 0 ? points.stream().mapToInt(p -> p).sum() : points.stream().mapToInt(p -> p).max().orElse(0);
    }

    int spit(int s, int stone, int how) {
        if (!isSpitter(s) || !in(stone, 0, 8) || !isHow(how)) {
            return BAD;
        }
        Spitter it = spitters.get(s);
        int lands = lands(s, stone, it.since, how / 10, how % 10);
        int points = points(lands);
        it.since++;
        it.points += points;
        it.best = Math.max(it.best, points);
        tries++;
        hens += lands == hen ? 1 : 0;
        barrels += barrelled(lands) ? 1 : 0;
        return points;
    }

    int rest() {
        int all = 0;
        for (Spitter s : spitters) {
            all += s.since;
            s.since = 0;
        }
        return all;
    }

    int led(int number, int what) {
        if (in(what, 0, 2) && isSpitter(number)) {
            Spitter s = spitters.get(number);
            return what == 0 ? s.points : what == 1 ? s.best : s.since;
        }
        if (in(what, 3, 5) && number == 0) {
            return what == 3 ? tries : what == 4 ? hens : barrels;
        }
        return BAD;
    }

    int image() {
        picture = new ArrayList<>();
        picture.add(new int[] {tries, hens, barrels});
        for (Spitter s : spitters) {
            picture.add(new int[] {s.points, s.best, s.since});
        }
        return tries;
    }

    int back() {
        if (picture == null) {
            return STATE;
        }
        tries = picture.get(0)[0];
        hens = picture.get(0)[1];
        barrels = picture.get(0)[2];
        for (int s = 0; s < spitters.size(); s++) {
            int[] was = s + 1 < picture.size() ? picture.get(s + 1) : new int[] {0, NOT, 0};
            spitters.get(s).points = was[0];
            spitters.get(s).best = was[1];
            spitters.get(s).since = was[2];
        }
        return tries;
    }

    int undo() {
        if (undoable.isEmpty()) {
            return STATE;
        }
        Change c = undoable.removeLast();
        set(c.number, c.what, c.before);
        redoable.addLast(c);
        return undoable.size();
    }

    int redo() {
        if (redoable.isEmpty()) {
            return STATE;
        }
        Change c = redoable.removeLast();
        set(c.number, c.what, c.after);
        undoable.addLast(c);
        return redoable.size();
    }

    // ---- 5

    interface Spits {
        List<Integer> ran();
        int n();
        default int spits(int x) {
            ran().add(1);
            return x + n();
        }
    }

    interface Tells {
        List<Integer> ran();
        int lands(int x);
        int rolls(int x);
        default int tells(int x) {
            ran().add(2);
            return lands(x) - rolls(1);
        }
    }

    static class Try implements Spits, Tells {
        final List<Integer> ran;
        final int n;
        Try(List<Integer> ran, int n) {
            this.ran = ran;
            this.n = n;
        }
        public List<Integer> ran() {
            return ran;
        }
        public int n() {
            return n;
        }
        public int spits(int x) {
            return Spits.super.spits(x);
        }
        public int tells(int x) {
            return Tells.super.tells(x);
        }
        public int lands(int x) {
            ran.add(10);
            return spits(x) * 2;
        }
        public int rolls(int x) {
            ran.add(11);
            return x ^ n;
        }
    }

    static class Wet extends Try {
        Wet(List<Integer> ran, int n) {
            super(ran, n);
        }
        public int spits(int x) {
            ran.add(20);
            return super.spits(x) + 3;
        }
    }

    static class Rolling extends Try {
        Rolling(List<Integer> ran, int n) {
            super(ran, n);
        }
        public int lands(int x) {
            ran.add(30);
            return -super.lands(x);
        }
    }

    static class Grass extends Rolling {
        Grass(List<Integer> ran, int n) {
            super(ran, n);
        }
        public int rolls(int x) {
            ran.add(40);
            return super.rolls(x) * 3;
        }
        public int lands(int x) {
            ran.add(41);
            return super.lands(x + 1);
        }
    }

    static class Run extends Wet {
        Run(List<Integer> ran, int n) {
            super(ran, n);
        }
        public int rolls(int x) {
            ran.add(50);
            return super.rolls(x) - spits(2);
        }
    }

    static class Barrel extends Grass {
        Barrel(List<Integer> ran, int n) {
            super(ran, n);
        }
        public int tells(int x) {
            ran.add(60);
            return super.tells(x) ^ 5;
        }
    }

    static class Small extends Try {
        Small(List<Integer> ran, int n) {
            super(ran, n);
        }
        public int spits(int x) {
            ran.add(70);
            return super.spits(x) * 2;
        }
    }

    static class Slip extends Run {
        Slip(List<Integer> ran, int n) {
            super(ran, n);
        }
        public int lands(int x) {
            ran.add(80);
            return super.lands(x) + rolls(2);
        }
        public int tells(int x) {
            ran.add(81);
            return super.tells(x) - 1;
        }
    }

    Try made(int kind, int n) {
        switch (kind) {
            case 0: return new Try(ran, n);
            case 1: return new Wet(ran, n);
            case 2: return new Rolling(ran, n);
            case 3: return new Grass(ran, n);
            case 4: return new Run(ran, n);
            case 5: return new Barrel(ran, n);
            case 6: return new Small(ran, n);
            default: return new Slip(ran, n);
        }
    }

    int body(int kind) {
        if (!in(kind, 0, 7)) {
            return BAD;
        }
        if (bodies.size() == 50) {
            return FULL;
        }
        bodies.add(kind);
        return bodies.size() - 1;
    }

    int act(int body, int act, int x) {
        ran.clear();
        if (!in(body, 0, bodies.size() - 1) || !in(act, 0, 3)) {
            return 0;
        }
        Try it = made(bodies.get(body), body);
        return act == 0 ? it.spits(x) : act == 1 ? it.lands(x) : act == 2 ? it.rolls(x) : it.tells(x);
    }

    int trace(int i) {
        return in(i, 0, Math.min(ran.size(), 24) - 1) ? ran.get(i) : BAD;
    }

    int keep(int shelf, int body) {
        if (!in(shelf, 0, 5) || !in(body, -1, bodies.size() - 1)) {
            return BAD;
        }
        shelves[shelf] = body < 0 ? null : Integer.valueOf(body);
        return 1;
    }

    int row(int shelf, int sort, int n) {
        if (!in(shelf, 0, 5) || !in(sort, 0, 4) || n > 60) {
            return BAD;
        }
        if (n < 0) {
            return -14;
        }
        Object[] made = new Object[1];
        switch (sort) {
            case 0: made[0] = new byte[n]; break;
            case 1: made[0] = new short[n]; break;
            case 2: made[0] = new int[n]; break;
            case 3: made[0] = new long[n]; break;
            default: made[0] = new boolean[n]; break;
        }
        shelves[shelf] = made[0];
        return 1;
    }

    int placeRefusal(int shelf, int i) {
        if (!in(shelf, 0, 5)) {
            return BAD;
        }
        Object held = shelves[shelf];
        if (held == null) {
            return -11;
        }
        if (held instanceof Integer) {
            return -12;
        }
        return in(i, 0, java.lang.reflect.Array.getLength(held) - 1) ? 0 : -13;
    }

    int put(int shelf, int i, long v) {
        int no = placeRefusal(shelf, i);
        if (no != 0) {
            return no;
        }
        Object held = shelves[shelf];
        if (held instanceof byte[]) {
            ((byte[]) held)[i] = (byte) v;
        } else if (held instanceof short[]) {
            ((short[]) held)[i] = (short) v;
        } else if (held instanceof int[]) {
            ((int[]) held)[i] = (int) v;
        } else if (held instanceof long[]) {
            ((long[]) held)[i] = v;
        } else {
            ((boolean[]) held)[i] = v != 0;
        }
        return 1;
    }

    long element(int shelf, int i) {
        if (placeRefusal(shelf, i) != 0) {
            return MIN;
        }
        Object held = shelves[shelf];
        return held instanceof boolean[] ? ((boolean[]) held)[i] ? 1 : 0 : java.lang.reflect.Array.getLong(held, i);
    }

    int shift(int shelf, int i, int other, int j, int n) {
        if (!in(shelf, 0, 5) || !in(other, 0, 5)) {
            return BAD;
        }
        Object from = shelves[shelf], to = shelves[other];
        if (from == null || to == null) {
            return -11;
        }
        if (from instanceof Integer || from.getClass() != to.getClass()) {
            return -12;
        }
        try {
            System.arraycopy(from, i, to, j, n);
        } catch (IndexOutOfBoundsException e) {
            return -13;
        }
        return n;
    }

    int taken(int shelf, int k) {
        if (!in(shelf, 0, 5) || !in(k, 0, 7)) {
            return BAD;
        }
        if (shelves[shelf] == null) {
            return -11;
        }
        if (!(shelves[shelf] instanceof Integer)) {
            return -12;
        }
        int kind = bodies.get((Integer) shelves[shelf]);
        return made(k, 0).getClass().isInstance(made(kind, 0)) ? kind : -12;
    }

    int count(int what) {
        switch (what) {
            case 0: return spitters.size();
            case 1: return tape.length();
            case 2: return undoable.size();
            case 3: return bodies.size();
            case 4: return ran.size();
            default: return BAD;
        }
    }
}
