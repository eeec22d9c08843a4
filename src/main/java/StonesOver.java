/**
 * Stones over the wall: cherry stones spat, who farthest. The promises that every public method keeps
 * are those of the document with the same names; what a call refuses is asked in the document's order
 * (BAD, NOT, FULL, STATE, -11 to -14), and a refused call changes nothing.
 */
public final class StonesOver {
    public static final int BAD = -1, NOT = -2, FULL = -3, STATE = -5, VOID = -2000000000;

    private static final int NOTHING_THERE = -11, OTHER_KIND = -12, NO_SUCH_PLACE = -13, SIZE_BELOW_NOUGHT = -14;
    private static final int FAULT_BASE = -100;
    private static final int ANGLES = 9, MOST_AHEAD = 99, FARTHEST = 999, TWELVE = 12;

    private final Lane lane;
    private final Tape tape;
    private final Law theLaw;
    private final Changes changes;
    private final Thought thought;
    private final Plans plans;
    private final Contest contest;
    private final Marks marks;
    private final Deeds deeds;
    private final Acts acts;
    private final Shelf[] shelves;

    public StonesOver() {
        Lane newLane = new Lane();
        Law newLaw = new Law();
        Thought newThought = new Thought(newLane, newLaw);
        Shelf[] newShelves = new Shelf[6];
        for (int i = 0; i < newShelves.length; i++) {
            newShelves[i] = new Shelf();
        }
        lane = newLane;
        tape = new Tape();
        theLaw = newLaw;
        changes = new Changes();
        thought = newThought;
        plans = new Plans(newLane, newThought);
        contest = new Contest(newLane, newThought);
        marks = new Marks(newLane, newThought);
        deeds = new Deeds();
        acts = new Acts();
        shelves = newShelves;
    }

    // ---- spitters, stones

    public int spitter(int mouth, int skill) {
        if (!Lane.isWithin(Lane.MOUTH, mouth) || !Lane.isWithin(Lane.SKILL, skill)) {
            return BAD;
        }
        return lane.isFull() ? FULL : lane.welcome(mouth, skill, 1);
    }

    public int spitters(int shelf, int i, int n) {
        Shelf from = shelfAt(shelf);
        if (from == null || n < 1 || n > Lane.SPITTERS) {
            return BAD;
        }
        int refusal = from.rowRefusal(Shelf.BYTES);
        if (refusal == OTHER_KIND) {
            return OTHER_KIND;
        }
        int came = 0;
        // A SHELF that holds nothing has no places: there the row is missing at once. A place below 0 is no
        // fault of the call either: no three begins there.
        while (came < n && from.hasPlaces(i + 3 * came, 3) && welcomeThree(from, i + 3 * came)) {
            came++;
        }
        return came;
    }

    public int mend(int number, int what, int v) {
        int cell = lane.cellOf(number, what);
        if (cell < 0 || !Lane.isWithin(what, v)) {
            return VOID;
        }
        int before = lane.numberIn(cell);
        if (before != v) {
            changes.note(cell, before, v);
            lane.write(cell, v);
        }
        return before;
    }

    public int of(int number, int what) {
        int cell = lane.cellOf(number, what);
        return cell < 0 ? VOID : lane.numberIn(cell);
    }

    public int feed(int letter) {
        if (letter < 0 || letter > 255) {
            return BAD;
        }
        return tape.isFull() ? FULL : tape.append(letter);
    }

    public int law() {
        boolean isText = tape.isText();
        int answer = isText ? 1 : FAULT_BASE - tape.fault();
        if (isText) {
            tape.writeTo(theLaw);
        }
        tape.clear();
        return answer;
    }

    // ---- tries in thought

    public int tries(int spitter, int sk, int how, int what) {
        if (!lane.isSpitter(spitter) || !isStoneAndAhead(sk) || !isHow(how) || what < 0 || what > 2) {
            return BAD;
        }
        thought.take(spitter, sk / 1000, sk % 1000);
        int lands = thought.landing(how / 10, how % 10);
        if (what == 0) {
            return lands;
        }
        return what == 1 ? lane.stopOf(lands) : lane.pointsOf(lands);
    }

    public int angle(int spitter, int sk, int what) {
        if (!lane.isSpitter(spitter) || !isStoneAndAhead(sk) || what < 0 || what > 2) {
            return BAD;
        }
        thought.take(spitter, sk / 1000, sk % 1000);
        if (what == 0) {
            return thought.bestAngleForStop();
        }
        return what == 1 ? thought.bestAngle(0) : thought.bestAngleAndRun();
    }

    public int order(int spitter, int sr, int k, int i) {
        if (!lane.isSpitter(spitter) || sr < 0 || sr / 10 >= 1 << Lane.STONES || sr % 10 > 1
                || k < 0 || k > MOST_AHEAD || i < -1) {
            return BAD;
        }
        int set = sr / 10;
        int stones = Integer.bitCount(set);
        if (stones > Plans.MOST_IN_ORDER) {
            return STATE;
        }
        if (i >= stones) {
            return NOT;
        }
        plans.weighOrders(spitter, set, sr % 10, k);
        return i < 0 ? plans.mostOfOrders() : plans.stoneInOrder(i);
    }

    public long risk(int spitter, int sk, int xr, int part) {
        if (!lane.isSpitter(spitter) || !isStoneAndAhead(sk) || xr < 0 || xr / 10 > FARTHEST || xr % 10 > 1
                || part < 0 || part > 1) {
            return Long.MIN_VALUE;
        }
        thought.take(spitter, sk / 1000, sk % 1000);
        long chances = plans.chances(spitter, xr / 10, xr % 10);
        return fractionPart(chances, TWELVE, part);
    }

    public long risks(int spitter, int sk, int xn, int part) {
        if (!lane.isSpitter(spitter) || !isStoneAndAhead(sk) || xn < 0 || xn / 10 > FARTHEST || xn % 10 < 1
                || part < 0 || part > 2) {
            return Long.MIN_VALUE;
        }
        plans.weighTries(spitter, sk, xn / 10, xn % 10);
        if (part == 2) {
            return plans.firstWithRun() ? 1 : 0;
        }
        return fractionPart(plans.chanceAbove(), plans.chanceBelow(), part);
    }

    public int practice(int spitter, int sk, int x, int what) {
        if (!lane.isSpitter(spitter) || !isStoneAndAhead(sk) || x < 0 || x > FARTHEST || what < 0 || what > 1) {
            return BAD;
        }
        return what == 0 ? plans.leastFor(spitter, sk, x, Lane.SKILL) : plans.leastFor(spitter, sk, x, Lane.MOUTH);
    }

    // ---- matches

    public int match(int shelf, int nr, int i) {
        int refusal = i < 0 ? BAD : matchRefusal(shelf, nr);
        return refusal != 0 ? refusal : contest.scoreAt(i);
    }

    public int winner(int shelf, int nr) {
        int refusal = matchRefusal(shelf, nr);
        return refusal != 0 ? refusal : contest.spitterAt(contest.firstPlace());
    }

    public long last(int shelf, int nr, int part) {
        if (part < 0 || part > 2 || matchRefusal(shelf, nr) != 0) {
            return Long.MIN_VALUE;
        }
        if (contest.size() == 0) {
            return NOT;
        }
        contest.weighLast();
        return part == 2 ? contest.runBits() : fractionPart(contest.chanceAbove(), contest.chanceBelow(), part);
    }

    public int place(int shelf, int nr, int spitter) {
        int refusal = lane.isSpitter(spitter) ? matchRefusal(shelf, nr) : BAD;
        return refusal != 0 ? refusal : contest.greatestWinningPlace(spitter);
    }

    public int handicap(int shelf, int nr, int spitter) {
        int refusal = lane.isSpitter(spitter) ? matchRefusal(shelf, nr) : BAD;
        return refusal != 0 ? refusal : contest.leastHandicap(spitter);
    }

    // ---- steps, marks

    public int steps(int spitter, int x) {
        if (!lane.isSpitter(spitter) || x < 0 || x > FARTHEST) {
            return BAD;
        }
        return marks.inSteps(spitter, x);
    }

    public int whose(int x, int n) {
        if (x < 0 || x > FARTHEST || n < 0 || n > FARTHEST) {
            return BAD;
        }
        return marks.bitsOfSteppers(x, n);
    }

    public int judge(int shelf, int sa) {
        int refusal = isSpitterAndAngle(sa) ? marksRefusal(shelf) : BAD;
        return refusal != 0 ? refusal : marks.firstUnlike(sa / 10, sa % 10, 0);
    }

    public int who(int shelf, int what) {
        int refusal = what < 0 || what > 1 ? BAD : marksRefusal(shelf);
        if (refusal != 0) {
            return refusal;
        }
        return what == 0 ? marks.howManyMay() : marks.firstWhoMay();
    }

    public int ahead(int shelf, int sa) {
        int refusal = isSpitterAndAngle(sa) ? marksRefusal(shelf) : BAD;
        return refusal != 0 ? refusal : marks.leastAhead(sa / 10, sa % 10);
    }

    public int drawn(int spitter, int sk, int seed, int nw) {
        if (!lane.isSpitter(spitter) || !isStoneAndAhead(sk) || nw < 100 || nw > 9999
                || nw / 10 % 10 > 1 || nw % 10 > 1) {
            return BAD;
        }
        return plans.draw(spitter, sk, seed, nw);
    }

    // ---- in deed

    public int spit(int spitter, int stone, int how) {
        if (!lane.isSpitter(spitter) || stone < 0 || stone >= Lane.STONES || !isHow(how)) {
            return BAD;
        }
        thought.take(spitter, stone, deeds.sinceRest(spitter));
        int lands = thought.landing(how / 10, how % 10);
        int points = lane.pointsOf(lands);
        deeds.note(spitter, points, lane.isHit(lands), lane.isInBarrel(lands));
        return points;
    }

    public int rest() {
        return deeds.beginAnew();
    }

    public int led(int number, int what) {
        if (what < 0 || what > 5) {
            return BAD;
        }
        if (what > 2) {
            return number == 0 ? deeds.ofAll(what - 3) : BAD;
        }
        return lane.isSpitter(number) ? deeds.ofOne(number, what) : BAD;
    }

    public int image() {
        return deeds.store();
    }

    public int back() {
        return deeds.layBack();
    }

    public int undo() {
        return changes.stepBack(lane);
    }

    public int redo() {
        return changes.stepOn(lane);
    }

    // ---- acts, shelves

    public int body(int kind) {
        if (!Acts.isKind(kind)) {
            return BAD;
        }
        return acts.isFull() ? FULL : acts.store(kind);
    }

    public int act(int body, int act, int x) {
        return acts.perform(body, act, x);
    }

    public int trace(int i) {
        return acts.tracedAt(i);
    }

    public int keep(int shelf, int body) {
        Shelf on = shelfAt(shelf);
        if (on == null || body != -1 && !acts.isBody(body)) {
            return BAD;
        }
        if (body == -1) {
            on.holdNothing();
        } else {
            on.holdTry(body);
        }
        return 1;
    }

    public int row(int shelf, int sort, int n) {
        Shelf on = shelfAt(shelf);
        if (on == null || sort < Shelf.BYTES || sort > Shelf.BOOLEANS || n > Shelf.MOST_ELEMENTS) {
            return BAD;
        }
        if (n < 0) {
            return SIZE_BELOW_NOUGHT;
        }
        on.holdRow(sort, n);
        return 1;
    }

    public int put(int shelf, int i, long v) {
        Shelf on = shelfAt(shelf);
        if (on == null) {
            return BAD;
        }
        int refusal = on.placeRefusal(i);
        if (refusal != 0) {
            return refusal;
        }
        on.write(i, v);
        return 1;
    }

    public long element(int shelf, int i) {
        Shelf on = shelfAt(shelf);
        if (on == null || on.placeRefusal(i) != 0) {
            return Long.MIN_VALUE;
        }
        return on.elementAt(i);
    }

    public int shift(int shelf, int i, int other, int j, int n) {
        Shelf from = shelfAt(shelf);
        Shelf to = shelfAt(other);
        if (from == null || to == null) {
            return BAD;
        }
        if (from.isEmpty() || to.isEmpty()) {
            return NOTHING_THERE;
        }
        if (!from.isLikeRow(to)) {
            return OTHER_KIND;
        }
        if (!from.hasPlaces(i, n) || !to.hasPlaces(j, n)) {
            return NO_SUCH_PLACE;
        }
        from.copyTo(i, to, j, n);
        return n;
    }

    public int taken(int shelf, int k) {
        Shelf on = shelfAt(shelf);
        if (on == null || !Acts.isKind(k)) {
            return BAD;
        }
        if (on.isEmpty()) {
            return NOTHING_THERE;
        }
        if (!on.isTry()) {
            return OTHER_KIND;
        }
        int kind = acts.kindOf(on.heldBody());
        return Acts.isUnder(kind, k) ? kind : OTHER_KIND;
    }

    public int count(int what) {
        switch (what) {
            case 0: return lane.size();
            case 1: return tape.length();
            case 2: return changes.undoable();
            case 3: return acts.size();
            case 4: return acts.howManyRan();
            default: return BAD;
        }
    }

    // ---- how sk, how, nr, sa and fractions are made up

    private static boolean isStoneAndAhead(int sk) {
        return sk >= 0 && sk / 1000 < Lane.STONES && sk % 1000 <= MOST_AHEAD;
    }

    private static boolean isHow(int how) {
        return how >= 0 && how / 10 < ANGLES && how % 10 <= 1;
    }

    private static boolean isStonesAndRule(int nr) {
        return nr >= 10 && nr / 10 <= Lane.STONES && nr % 10 <= 1;
    }

    private boolean isSpitterAndAngle(int sa) {
        return sa >= 0 && lane.isSpitter(sa / 10) && sa % 10 < ANGLES;
    }

    private Shelf shelfAt(int shelf) {
        return shelf >= 0 && shelf < shelves.length ? shelves[shelf] : null;
    }

    /** Gathers the match of a row of bytes; if there is none, answers why. */
    private int matchRefusal(int shelf, int nr) {
        Shelf from = shelfAt(shelf);
        if (from == null || !isStonesAndRule(nr)) {
            return BAD;
        }
        int refusal = from.rowRefusal(Shelf.BYTES);
        if (refusal == 0) {
            contest.gather(from, nr / 10, nr % 10);
        }
        return refusal;
    }

    /** Reads the marks of a row of shorts; if there is none, answers why. */
    private int marksRefusal(int shelf) {
        Shelf from = shelfAt(shelf);
        if (from == null) {
            return BAD;
        }
        int refusal = from.rowRefusal(Shelf.SHORTS);
        if (refusal == 0) {
            marks.read(from);
        }
        return refusal;
    }

    /** Lets one three of a row in; a three that is not as said, or no place for it, ends the row. */
    private boolean welcomeThree(Shelf from, int i) {
        long mouth = from.elementAt(i);
        long skill = from.elementAt(i + 1);
        long tires = from.elementAt(i + 2);
        if (lane.isFull() || !Lane.isWithin(Lane.MOUTH, mouth) || !Lane.isWithin(Lane.SKILL, skill)
                || !Lane.isWithin(Lane.TIRES, tires)) {
            return false;
        }
        lane.welcome((int) mouth, (int) skill, (int) tires);
        return true;
    }

    private static long fractionPart(long above, long below, int part) {
        long divisor = greatestDivisor(above, below);
        if (divisor == 0) {
            return 0;
        }
        return part == 0 ? above / divisor : below / divisor;
    }

    private static long greatestDivisor(long a, long b) {
        long one = a;
        long other = b;
        // Euclid's rule needs fewer than a hundred turns for any two longs.
        for (int turn = 0; turn < 100 && other != 0; turn++) {
            long left = one % other;
            one = other;
            other = left;
        }
        return one;
    }

    /** Every number that mend() can tell, in one row of cells, so that a change is a cell and two numbers. */
    private static final class Lane {
        static final int SPITTERS = 6, STONES = 9;
        static final int MOUTH = 0, SKILL = 1, TIRES = 2, SLIPS = 3, STEP = 4, SIZE = 5, WET = 6;
        static final int WIND = 7, GRASS = 8, BARREL = 9, RIM = 10, HEN = 11, LAUGHS = 12;

        private static final int[] LEAST = {1, 0, 0, 0, 1, 1, 0, -9, 0, 0, 0, -1, 0};
        private static final int[] MOST = {9, 9, 9, 12, 20, 9, 1, 9, 999, 999, 20, 999, 12};
        private static final int[] AT_FIRST = {1, 0, 1, 0, 10, 5, 0, 0, 999, 400, 5, -1, 0};
        private static final int STONE_CELLS = SIZE * SPITTERS;
        private static final int LANE_CELLS = STONE_CELLS + 2 * STONES;
        private static final int CELLS = LANE_CELLS + LAUGHS - WIND + 1;
        private static final int GRASS_CELL = LANE_CELLS + GRASS - WIND, BARREL_CELL = LANE_CELLS + BARREL - WIND;
        private static final int RIM_CELL = LANE_CELLS + RIM - WIND, HEN_CELL = LANE_CELLS + HEN - WIND;
        private static final int BARREL_POINTS = 30;

        private final int[] numbers;
        private int spitters;

        Lane() {
            int[] first = new int[CELLS];
            for (int what = SIZE; what <= WET; what++) {
                for (int stone = 0; stone < STONES; stone++) {
                    first[STONE_CELLS + (what - SIZE) * STONES + stone] = AT_FIRST[what];
                }
            }
            for (int what = WIND; what <= LAUGHS; what++) {
                first[LANE_CELLS + what - WIND] = AT_FIRST[what];
            }
            numbers = first;
        }

        static boolean isWithin(int what, long v) {
            return what >= MOUTH && what <= LAUGHS && v >= LEAST[what] && v <= MOST[what];
        }

        boolean isSpitter(int number) {
            return number >= 0 && number < spitters;
        }

        int size() {
            return spitters;
        }

        boolean isFull() {
            return spitters >= SPITTERS;
        }

        int welcome(int mouth, int skill, int tires) {
            int number = spitters;
            spitters++;
            write(MOUTH * SPITTERS + number, mouth);
            write(SKILL * SPITTERS + number, skill);
            write(TIRES * SPITTERS + number, tires);
            write(SLIPS * SPITTERS + number, AT_FIRST[SLIPS]);
            write(STEP * SPITTERS + number, AT_FIRST[STEP]);
            return number;
        }

        /** The cell of a number, or -1: there is none. */
        int cellOf(int number, int what) {
            if (what < MOUTH || what > LAUGHS) {
                return -1;
            }
            if (what < SIZE) {
                return number >= 0 && number < spitters ? what * SPITTERS + number : -1;
            }
            if (what < WIND) {
                return number >= 0 && number < STONES ? STONE_CELLS + (what - SIZE) * STONES + number : -1;
            }
            return number == 0 ? LANE_CELLS + what - WIND : -1;
        }

        int numberIn(int cell) {
            return cell >= 0 && cell < numbers.length ? numbers[cell] : 0;
        }

        void write(int cell, int v) {
            if (cell >= 0 && cell < numbers.length) {
                numbers[cell] = v;
            }
        }

        int told(int number, int what) {
            int cell = cellOf(number, what);
            return cell >= 0 && cell < numbers.length ? numbers[cell] : 0;
        }

        boolean isInBarrel(int lands) {
            int barrel = numbers[BARREL_CELL];
            int rim = numbers[RIM_CELL];
            return lands >= barrel - rim && lands <= barrel + rim;
        }

        boolean isHit(int lands) {
            return lands == numbers[HEN_CELL];
        }

        int stopOf(int lands) {
            int grass = numbers[GRASS_CELL];
            if (isInBarrel(lands) || lands >= grass) {
                return lands;
            }
            return Math.min(lands + lands / 10, grass);
        }

        int pointsOf(int lands) {
            if (isHit(lands)) {
                return 0;
            }
            int yards = stopOf(lands) / 10;
            return isInBarrel(lands) ? yards + BARREL_POINTS : yards;
        }
    }

    /** The changes that may be undone (those ahead of done), and behind them those that may be done again. */
    private static final class Changes {
        private static final int MOST_KEPT = 40;

        private final int[] cells = new int[MOST_KEPT];
        private final int[] before = new int[MOST_KEPT];
        private final int[] after = new int[MOST_KEPT];
        private int done;
        private int kept;

        void note(int cell, int was, int becomes) {
            if (done >= MOST_KEPT) {
                forgetOldest();
            }
            if (done >= 0 && done < MOST_KEPT) {
                cells[done] = cell;
                before[done] = was;
                after[done] = becomes;
                done++;
            }
            kept = done;
        }

        int undoable() {
            return done;
        }

        int stepBack(Lane lane) {
            if (done <= 0 || done > MOST_KEPT) {
                return STATE;
            }
            done--;
            lane.write(cells[done], before[done]);
            return done;
        }

        int stepOn(Lane lane) {
            if (done < 0 || done >= kept || done >= MOST_KEPT) {
                return STATE;
            }
            lane.write(cells[done], after[done]);
            done++;
            return kept - done;
        }

        private void forgetOldest() {
            System.arraycopy(cells, 1, cells, 0, MOST_KEPT - 1);
            System.arraycopy(before, 1, before, 0, MOST_KEPT - 1);
            System.arraycopy(after, 1, after, 0, MOST_KEPT - 1);
            done = MOST_KEPT - 1;
        }
    }

    /**
     * THE TAPE, and its reading as a TEXT: a descent by the grammar's rows, which writes each sign behind
     * what it binds, as steps for a stack. It stops at the first byte with which no TEXT goes on.
     */
    private static final class Tape {
        private static final int MOST_BYTES = 120, MOST_OPEN = 6, MOST_DIGITS = 4;
        private static final int THE_END = -1;
        private static final int EITHER = 0, BOTH = 1, COMPARED = 2, SUM = 3, PRODUCT = 4;

        private final int[] bytes = new int[MOST_BYTES];
        private final int[] draft = new int[Law.MOST_STEPS];
        private int size;
        private int at;
        private int drafted;

        int append(int letter) {
            if (size >= 0 && size < MOST_BYTES) {
                bytes[size] = letter;
                size++;
            }
            return size;
        }

        boolean isFull() {
            return size >= MOST_BYTES;
        }

        int length() {
            return size;
        }

        void clear() {
            size = 0;
        }

        int fault() {
            return at;
        }

        void writeTo(Law law) {
            law.become(draft, drafted);
        }

        boolean isText() {
            at = 0;
            drafted = 0;
            for (int line = 0; line <= MOST_BYTES; line++) {
                if (!isLine()) {
                    return false;
                }
                if (at >= size) {
                    return true;
                }
                if (letter() != ';') {
                    return false;
                }
                at++;
            }
            return false;
        }

        private boolean isLine() {
            if (!isChain(EITHER, 0)) {
                return false;
            }
            int condition = -1;
            if (letter() == '?') {
                condition = drafted;
                draw(Law.WHEN);
                at++;
                if (!isChain(EITHER, 0)) {
                    return false;
                }
            }
            draw(Law.ENDS);
            // Only here is it known where the next LINE begins, to which a first E of 0 leads.
            if (condition >= 0 && condition < draft.length) {
                draft[condition] = Law.WHEN + drafted;
            }
            return true;
        }

        private boolean isChain(int level, int open) {
            if (level > PRODUCT) {
                return isOperand(open);
            }
            if (!isChain(level + 1, open)) {
                return false;
            }
            int most = level == COMPARED ? 1 : MOST_BYTES;
            for (int i = 0; i < most && isSignOf(level, letter()); i++) {
                int sign = letter();
                at++;
                if (!isChain(level + 1, open)) {
                    return false;
                }
                draw(-sign);
            }
            return true;
        }

        private static boolean isSignOf(int level, int letter) {
            switch (level) {
                case EITHER: return letter == '|';
                case BOTH: return letter == '&';
                case COMPARED: return letter == '<' || letter == '=' || letter == '>';
                case SUM: return letter == '+' || letter == '-';
                default: return letter == '*' || letter == '/' || letter == '%';
            }
        }

        private boolean isOperand(int open) {
            int letter = letter();
            if (isDigit(letter)) {
                drawNumber();
                return true;
            }
            int name = Law.nameOf(letter);
            if (name >= 0) {
                at++;
                draw(Law.NAMED + name);
                return true;
            }
            if (letter != '(' && letter != '!' && letter != '-' || open >= MOST_OPEN) {
                return false;
            }
            at++;
            return letter == '(' ? isClosed(open + 1) : isSigned(letter, open + 1);
        }

        private boolean isClosed(int open) {
            if (!isChain(EITHER, open) || letter() != ')') {
                return false;
            }
            at++;
            return true;
        }

        private boolean isSigned(int sign, int open) {
            if (!isOperand(open)) {
                return false;
            }
            draw(sign == '-' ? Law.NEGATED : -sign);
            return true;
        }

        private void drawNumber() {
            int number = 0;
            for (int digit = 0; digit < MOST_DIGITS && isDigit(letter()); digit++) {
                number = number * 10 + letter() - '0';
                at++;
            }
            draw(number);
        }

        private static boolean isDigit(int letter) {
            return letter >= '0' && letter <= '9';
        }

        private int letter() {
            return at >= 0 && at < size ? bytes[at] : THE_END;
        }

        private void draw(int step) {
            if (drafted >= 0 && drafted < draft.length) {
                draft[drafted] = step;
                drafted++;
            }
        }
    }

    /**
     * THE LAW as steps for a stack: 0 to 9999 is a number, from NAMED on a NAME, from WHEN on where to go
     * if the top is 0, below 0 a sign of the text (less), NEGATED or ENDS.
     */
    private static final class Law {
        static final int MOST_STEPS = 200;
        static final int NAMED = 10000, WHEN = 20000;
        static final int NEGATED = -1, ENDS = -2;

        private static final int DEEPEST = 64, NAMES = 6;

        private final int[] code = new int[MOST_STEPS];
        private final int[] stack = new int[DEEPEST];
        private final int[] named = new int[NAMES];
        private int length;

        static int nameOf(int letter) {
            switch (letter) {
                case 'a': return 0;
                case 'p': return 1;
                case 'z': return 2;
                case 'w': return 3;
                case 'e': return 4;
                case 't': return 5;
                default: return -1;
            }
        }

        void become(int[] steps, int n) {
            if (n >= 0 && n <= MOST_STEPS && n <= steps.length) {
                System.arraycopy(steps, 0, code, 0, n);
                length = n;
            }
        }

        boolean isTold() {
            return length > 0;
        }

        int worth(int a, int p, int z, int w, int e, int t) {
            named[0] = a;
            named[1] = p;
            named[2] = z;
            named[3] = w;
            named[4] = e;
            named[5] = t;
            int top = -1;
            for (int i = 0; i < length && i < MOST_STEPS; i++) {
                int step = code[i];
                if (step >= 0 && step < WHEN) {
                    top++;
                    if (top < 0 || top >= DEEPEST) {
                        return 0;
                    }
                    int name = step - NAMED;
                    stack[top] = name >= 0 && name < NAMES ? named[name] : step;
                } else if (top < 0 || top >= DEEPEST) {
                    return 0;
                } else if (step == ENDS) {
                    return stack[top];
                } else if (step >= WHEN) {
                    boolean counts = stack[top] != 0;
                    top--;
                    i = counts ? i : Math.max(i, step - WHEN - 1);
                } else if (step == NEGATED) {
                    stack[top] = -stack[top];
                } else if (step == -'!') {
                    stack[top] = stack[top] == 0 ? 1 : 0;
                } else if (top >= 1) {
                    top--;
                    stack[top] = joined(-step, stack[top], stack[top + 1]);
                }
            }
            return 0;
        }

        private static int joined(int sign, int left, int right) {
            switch (sign) {
                case '|': return left != 0 || right != 0 ? 1 : 0;
                case '&': return left != 0 && right != 0 ? 1 : 0;
                case '<': return left < right ? 1 : 0;
                case '=': return left == right ? 1 : 0;
                case '>': return left > right ? 1 : 0;
                case '+': return left + right;
                case '-': return left - right;
                case '*': return left * right;
                case '/': return right == 0 ? 0 : left / right;
                case '%': return right == 0 ? 0 : left % right;
                default: return 0;
            }
        }
    }

    /** One try in thought: take() sets it, with what a plan changes in it, and then its angles are tried. */
    private static final class Thought {
        private static final int RUN_HELPS = 3, LARGEST = 9;

        private final Lane lane;
        private final Law law;
        private int strength;
        private int stoneSize;
        private int wet;
        private int tired;
        private int wind;

        Thought(Lane lane, Law law) {
            this.lane = lane;
            this.law = law;
        }

        void take(int spitter, int stone, int ahead) {
            strength = lane.told(spitter, Lane.MOUTH) + lane.told(spitter, Lane.SKILL);
            stoneSize = lane.told(stone, Lane.SIZE);
            wet = lane.told(stone, Lane.WET);
            tired = lane.told(spitter, Lane.TIRES) * ahead;
            wind = lane.told(0, Lane.WIND);
        }

        void strengthen(int by) {
            strength += by;
        }

        void enlarge(int by) {
            stoneSize = Math.min(stoneSize + by, LARGEST);
        }

        int landing(int angle, int run) {
            int p = run == 1 ? strength + RUN_HELPS : strength;
            int far = law.isTold() ? law.worth(angle, p, stoneSize, wet, wind, tired) : withoutText(angle, p);
            return Math.max(0, Math.min(FARTHEST, far));
        }

        private int withoutText(int a, int p) {
            return p * (9 - Math.abs(a - 4)) * 2 + 6 * wet - stoneSize * stoneSize / 2 + wind * a - tired;
        }

        int bestAngleForStop() {
            int best = 0;
            int farthest = -1;
            for (int angle = 0; angle < ANGLES; angle++) {
                int stop = lane.stopOf(landing(angle, 0));
                if (stop > farthest) {
                    farthest = stop;
                    best = angle;
                }
            }
            return best;
        }

        int bestAngle(int run) {
            int best = 0;
            int most = -1;
            for (int angle = 0; angle < ANGLES; angle++) {
                int points = lane.pointsOf(landing(angle, run));
                if (points > most) {
                    most = points;
                    best = angle;
                }
            }
            return best;
        }

        int bestPoints(int run) {
            int most = 0;
            for (int angle = 0; angle < ANGLES; angle++) {
                most = Math.max(most, lane.pointsOf(landing(angle, run)));
            }
            return most;
        }

        int bestAngleAndRun() {
            int without = bestAngle(0);
            int with = bestAngle(1);
            int pointsWithout = lane.pointsOf(landing(without, 0));
            int pointsWith = lane.pointsOf(landing(with, 1));
            if (pointsWith == pointsWithout) {
                return Math.min(10 * without, 10 * with + 1);
            }
            return pointsWith > pointsWithout ? 10 * with + 1 : 10 * without;
        }
    }

    /** What a spitter can plan alone: an order of stones, a run, practice, draws. */
    private static final class Plans {
        static final int MOST_IN_ORDER = 7;

        private final Lane lane;
        private final Thought thought;
        private final int[] stones = new int[MOST_IN_ORDER];
        private final int[] worth = new int[MOST_IN_ORDER * MOST_IN_ORDER];
        private final int[] most = new int[1 << MOST_IN_ORDER];
        private int stoneCount;
        private int rule;
        private long above;
        private long below;
        private boolean runFirst;

        Plans(Lane lane, Thought thought) {
            this.lane = lane;
            this.thought = thought;
        }

        /** For each set of stones that are left: the most that they bring, spat as the last ones. */
        void weighOrders(int spitter, int set, int byRule, int ahead) {
            rule = byRule;
            gatherStones(set);
            weighStones(spitter, ahead);
            most[0] = 0;
            for (int left = 1; left < 1 << stoneCount && left < most.length; left++) {
                int turn = stoneCount - Integer.bitCount(left);
                int best = 0;
                for (int i = 0; i < stoneCount; i++) {
                    if ((left >> i & 1) != 0) {
                        best = Math.max(best, together(worthOf(i, turn), mostOf(left ^ 1 << i)));
                    }
                }
                most[left] = best;
            }
        }

        int mostOfOrders() {
            return mostOf((1 << stoneCount) - 1);
        }

        /** The i-th stone of the first order by numbers that brings the most. */
        int stoneInOrder(int i) {
            int left = (1 << stoneCount) - 1;
            int goal = mostOf(left);
            int had = 0;
            int chosen = 0;
            for (int turn = 0; turn <= i && turn < stoneCount; turn++) {
                chosen = leastStone(left, turn, had, goal);
                had = together(had, worthOf(chosen, turn));
                left ^= 1 << chosen;
            }
            return chosen >= 0 && chosen < MOST_IN_ORDER ? stones[chosen] : NOT;
        }

        private int leastStone(int left, int turn, int had, int goal) {
            for (int i = 0; i < stoneCount; i++) {
                if ((left >> i & 1) != 0) {
                    int now = together(had, worthOf(i, turn));
                    if (together(now, mostOf(left ^ 1 << i)) == goal) {
                        return i;
                    }
                }
            }
            return 0;
        }

        private void gatherStones(int set) {
            stoneCount = 0;
            for (int stone = 0; stone < Lane.STONES && stoneCount < MOST_IN_ORDER; stone++) {
                if ((set >> stone & 1) != 0) {
                    stones[stoneCount] = stone;
                    stoneCount++;
                }
            }
        }

        private void weighStones(int spitter, int ahead) {
            for (int i = 0; i < stoneCount && i < MOST_IN_ORDER; i++) {
                for (int turn = 0; turn < stoneCount && turn < MOST_IN_ORDER; turn++) {
                    thought.take(spitter, stones[i], ahead + turn);
                    worth[i * MOST_IN_ORDER + turn] = thought.bestPoints(0);
                }
            }
        }

        private int worthOf(int i, int turn) {
            int cell = i * MOST_IN_ORDER + turn;
            return cell >= 0 && cell < worth.length ? worth[cell] : 0;
        }

        private int mostOf(int left) {
            return left >= 0 && left < most.length ? most[left] : 0;
        }

        private int together(int had, int points) {
            return rule == 0 ? Math.max(had, points) : had + points;
        }

        /** How many of twelve chances the try thought of has to beat x. */
        int chances(int spitter, int x, int run) {
            if (thought.bestPoints(run) <= x) {
                return 0;
            }
            return run == 1 ? TWELVE - lane.told(spitter, Lane.SLIPS) : TWELVE;
        }

        /** Since one success is enough, the tries fail together only if each fails: their failures multiply. */
        void weighTries(int spitter, int sk, int x, int n) {
            long laterFail = 1;
            below = 1;
            for (int i = 1; i < n; i++) {
                thought.take(spitter, sk / 1000, sk % 1000 + i);
                laterFail *= TWELVE - Math.max(chances(spitter, x, 0), chances(spitter, x, 1));
                below *= TWELVE;
            }
            below *= TWELVE;
            thought.take(spitter, sk / 1000, sk % 1000);
            long without = laterFail * (TWELVE - chances(spitter, x, 0));
            long with = laterFail * (TWELVE - chances(spitter, x, 1));
            runFirst = with < without;
            above = below - Math.min(with, without);
        }

        long chanceAbove() {
            return above;
        }

        long chanceBelow() {
            return below;
        }

        boolean firstWithRun() {
            return runFirst;
        }

        /** A law told as a text may turn against the strong: so each number is tried, from the least on. */
        int leastFor(int spitter, int sk, int x, int what) {
            int now = lane.told(spitter, what);
            for (int v = 0; v <= 9; v++) {
                if (Lane.isWithin(what, v)) {
                    thought.take(spitter, sk / 1000, sk % 1000);
                    thought.strengthen(v - now);
                    if (thought.bestPoints(0) >= x) {
                        return v;
                    }
                }
            }
            return NOT;
        }

        int draw(int spitter, int sk, int seed, int nw) {
            int n = nw / 100;
            int run = nw / 10 % 10;
            int z = seed;
            int all = 0;
            int best = 0;
            for (int i = 0; i < n; i++) {
                z = z * 1103515245 + 12345;
                boolean slips = run == 1 && (z >>> 8) % 12 < lane.told(spitter, Lane.SLIPS);
                boolean laughs = (z >>> 16) % 12 < lane.told(0, Lane.LAUGHS);
                if (!slips && !laughs) {
                    thought.take(spitter, sk / 1000, sk % 1000 + i);
                    int points = thought.bestPoints(run);
                    all += points;
                    best = Math.max(best, points);
                }
            }
            return nw % 10 == 0 ? all : best;
        }
    }

    /** A match of the spitters in a row, gathered anew for each call. */
    private static final class Contest {
        private static final long[] TWELVES = {1L, 12L, 144L, 1728L, 20736L, 248832L, 2985984L, 35831808L,
            429981696L, 5159780352L};
        private static final int MOST_LARGER = 8;

        private final Lane lane;
        private final Thought thought;
        private final int[] who = new int[Lane.SPITTERS];
        private final int[] scores = new int[Lane.SPITTERS];
        private final int[] without = new int[Lane.STONES];
        private final int[] with = new int[Lane.STONES];
        private int size;
        private int stones;
        private int rule;
        private int need;
        private int slips;
        private long above;
        private int bits;

        Contest(Lane lane, Thought thought) {
            this.lane = lane;
            this.thought = thought;
        }

        void gather(Shelf row, int n, int byRule) {
            size = 0;
            stones = n;
            rule = byRule;
            for (int i = 0; i < row.length() && i < Lane.SPITTERS; i++) {
                long told = row.elementAt(i);
                if (told < 0 || told >= lane.size() || placeOf((int) told) >= 0) {
                    return;
                }
                who[i] = (int) told;
                scores[i] = scoreOf(who[i], 0);
                size = i + 1;
            }
        }

        int size() {
            return size;
        }

        int scoreAt(int i) {
            return i >= 0 && i < size && i < scores.length ? scores[i] : NOT;
        }

        int spitterAt(int i) {
            return i >= 0 && i < size && i < who.length ? who[i] : NOT;
        }

        /** The place in the row of who wins; -1: nobody is there. */
        int firstPlace() {
            int first = -1;
            int most = -1;
            for (int i = 0; i < size; i++) {
                if (scoreAt(i) > most) {
                    most = scoreAt(i);
                    first = i;
                }
            }
            return first;
        }

        /** It may stand behind all who have less, up to the first who has as much; nobody may have more. */
        int greatestWinningPlace(int spitter) {
            int own = placeOf(spitter);
            if (own < 0) {
                return NOT;
            }
            int others = 0;
            int firstLike = -1;
            for (int i = 0; i < size; i++) {
                if (i != own) {
                    if (scoreAt(i) > scoreAt(own)) {
                        return NOT;
                    }
                    if (scoreAt(i) == scoreAt(own) && firstLike < 0) {
                        firstLike = others;
                    }
                    others++;
                }
            }
            return firstLike < 0 ? others : firstLike;
        }

        int leastHandicap(int spitter) {
            int own = placeOf(spitter);
            if (own < 0 || own >= scores.length || firstPlace() != own) {
                return 0;
            }
            for (int larger = 1; larger <= MOST_LARGER; larger++) {
                scores[own] = scoreOf(spitter, larger);
                if (firstPlace() != own) {
                    return larger;
                }
            }
            return NOT;
        }

        /** Weighs each set of runs of the last one by how many of 12 to the n chances bring it ahead. */
        void weighLast() {
            int own = spitterAt(size - 1);
            need = -1;
            for (int i = 0; i < size - 1; i++) {
                need = Math.max(need, scoreAt(i));
            }
            slips = lane.told(own, Lane.SLIPS);
            for (int stone = 0; stone < stones && stone < Lane.STONES; stone++) {
                thought.take(own, stone, stone);
                without[stone] = thought.bestPoints(0);
                with[stone] = thought.bestPoints(1);
            }
            above = -1;
            for (int runs = 0; runs < 1 << stones; runs++) {
                long chances = chancesFrom(0, runs, 0);
                if (chances > above) {
                    above = chances;
                    bits = runs;
                }
            }
        }

        long chanceAbove() {
            return above;
        }

        long chanceBelow() {
            return twelveTo(stones);
        }

        int runBits() {
            return bits;
        }

        private long chancesFrom(int stone, int runs, int had) {
            // By both rules what it has never falls, so that who is ahead stays ahead.
            if (had > need) {
                return twelveTo(stones - stone);
            }
            if (stone < 0 || stone >= stones || stone >= Lane.STONES) {
                return 0;
            }
            if ((runs >> stone & 1) == 0) {
                return TWELVE * chancesFrom(stone + 1, runs, together(had, without[stone]));
            }
            long slipping = slips * chancesFrom(stone + 1, runs, had);
            return slipping + (TWELVE - slips) * chancesFrom(stone + 1, runs, together(had, with[stone]));
        }

        private static long twelveTo(int n) {
            return n >= 0 && n < TWELVES.length ? TWELVES[n] : 0;
        }

        private int placeOf(int spitter) {
            for (int i = 0; i < size && i < who.length; i++) {
                if (who[i] == spitter) {
                    return i;
                }
            }
            return -1;
        }

        private int scoreOf(int spitter, int larger) {
            int score = 0;
            for (int stone = 0; stone < stones; stone++) {
                thought.take(spitter, stone, stone);
                thought.enlarge(larger);
                score = together(score, thought.bestPoints(0));
            }
            return score;
        }

        private int together(int had, int points) {
            return rule == 0 ? Math.max(had, points) : had + points;
        }
    }

    /** Steps that measure, and the marks of a row, read anew for each call, that tell whose they are. */
    private static final class Marks {
        private final Lane lane;
        private final Thought thought;
        private final int[] stops = new int[Shelf.MOST_ELEMENTS];
        private int size;

        Marks(Lane lane, Thought thought) {
            this.lane = lane;
            this.thought = thought;
        }

        int inSteps(int spitter, int x) {
            int step = lane.told(spitter, Lane.STEP);
            return step == 0 ? 0 : x / step;
        }

        int bitsOfSteppers(int x, int n) {
            int bits = 0;
            for (int spitter = 0; spitter < lane.size(); spitter++) {
                if (inSteps(spitter, x) == n) {
                    bits |= 1 << spitter;
                }
            }
            return bits;
        }

        void read(Shelf row) {
            size = Math.min(row.length(), stops.length);
            for (int i = 0; i < size; i++) {
                stops[i] = (int) row.elementAt(i);
            }
        }

        /** The first mark that is not so; NOT: all are. */
        int firstUnlike(int spitter, int angle, int ahead) {
            for (int i = 0; i < size && i < stops.length; i++) {
                thought.take(spitter, i % Lane.STONES, ahead + i);
                if (lane.stopOf(thought.landing(angle, 0)) != stops[i]) {
                    return i;
                }
            }
            return NOT;
        }

        int howManyMay() {
            int may = 0;
            for (int spitter = 0; spitter < lane.size(); spitter++) {
                for (int angle = 0; angle < ANGLES; angle++) {
                    if (firstUnlike(spitter, angle, 0) == NOT) {
                        may++;
                    }
                }
            }
            return may;
        }

        int firstWhoMay() {
            for (int spitter = 0; spitter < lane.size(); spitter++) {
                for (int angle = 0; angle < ANGLES; angle++) {
                    if (firstUnlike(spitter, angle, 0) == NOT) {
                        return 10 * spitter + angle;
                    }
                }
            }
            return NOT;
        }

        int leastAhead(int spitter, int angle) {
            for (int ahead = 0; ahead <= MOST_AHEAD; ahead++) {
                if (firstUnlike(spitter, angle, ahead) == NOT) {
                    return ahead;
                }
            }
            return NOT;
        }
    }

    /** What has been spat in deed, in one row of numbers, so that an image is a copy of that row. */
    private static final class Deeds {
        private static final int POINTS = 0, BEST = 1, SINCE_REST = 2, OF_ONE = 3;
        private static final int TRIES = OF_ONE * Lane.SPITTERS, HENS = TRIES + 1, BARRELS = TRIES + 2;
        private static final int NUMBERS = TRIES + 3;

        private final int[] numbers;
        private final int[] picture = new int[NUMBERS];
        private boolean isPictured;

        Deeds() {
            int[] first = new int[NUMBERS];
            for (int spitter = 0; spitter < Lane.SPITTERS; spitter++) {
                first[OF_ONE * spitter + BEST] = NOT;
            }
            numbers = first;
        }

        int sinceRest(int spitter) {
            return ofOne(spitter, SINCE_REST);
        }

        void note(int spitter, int points, boolean isHit, boolean isInBarrel) {
            if (spitter < 0 || spitter >= Lane.SPITTERS) {
                return;
            }
            int own = OF_ONE * spitter;
            numbers[own + POINTS] += points;
            numbers[own + BEST] = Math.max(numbers[own + BEST], points);
            numbers[own + SINCE_REST]++;
            numbers[TRIES]++;
            if (isHit) {
                numbers[HENS]++;
            }
            if (isInBarrel) {
                numbers[BARRELS]++;
            }
        }

        int beginAnew() {
            int spat = 0;
            for (int spitter = 0; spitter < Lane.SPITTERS; spitter++) {
                spat += numbers[OF_ONE * spitter + SINCE_REST];
                numbers[OF_ONE * spitter + SINCE_REST] = 0;
            }
            return spat;
        }

        int ofOne(int spitter, int what) {
            int cell = OF_ONE * spitter + what;
            return cell >= 0 && cell < TRIES ? numbers[cell] : 0;
        }

        int ofAll(int what) {
            return what >= 0 && what < NUMBERS - TRIES ? numbers[TRIES + what] : 0;
        }

        int store() {
            System.arraycopy(numbers, 0, picture, 0, NUMBERS);
            isPictured = true;
            return numbers[TRIES];
        }

        int layBack() {
            if (!isPictured) {
                return STATE;
            }
            System.arraycopy(picture, 0, numbers, 0, NUMBERS);
            return numbers[TRIES];
        }
    }

    /** One shelf: nothing, a TRY (a body's number), or a ROW, whose elements are kept as they are read. */
    private static final class Shelf {
        static final int BYTES = 0, SHORTS = 1, INTS = 2, LONGS = 3, BOOLEANS = 4;
        static final int MOST_ELEMENTS = 60;

        private static final int NOTHING = 0, A_TRY = 1, A_ROW = 2;

        private final long[] elements = new long[MOST_ELEMENTS];
        private int holds;
        private int held;
        private int sort;
        private int length;

        void holdNothing() {
            holds = NOTHING;
            length = 0;
        }

        void holdTry(int body) {
            holds = A_TRY;
            held = body;
            length = 0;
        }

        void holdRow(int newSort, int n) {
            holds = A_ROW;
            sort = newSort;
            length = Math.max(0, Math.min(n, MOST_ELEMENTS));
            for (int i = 0; i < length; i++) {
                elements[i] = 0;
            }
        }

        boolean isEmpty() {
            return holds == NOTHING;
        }

        boolean isTry() {
            return holds == A_TRY;
        }

        int heldBody() {
            return held;
        }

        /** How many elements there are to read: none, but in a ROW. */
        int length() {
            return length;
        }

        boolean isLikeRow(Shelf other) {
            return holds == A_ROW && other.holds == A_ROW && sort == other.sort;
        }

        int rowRefusal(int wanted) {
            if (holds == NOTHING) {
                return NOTHING_THERE;
            }
            return holds == A_ROW && sort == wanted ? 0 : OTHER_KIND;
        }

        int placeRefusal(int i) {
            if (holds == NOTHING) {
                return NOTHING_THERE;
            }
            if (holds != A_ROW) {
                return OTHER_KIND;
            }
            return hasPlaces(i, 1) ? 0 : NO_SUCH_PLACE;
        }

        boolean hasPlaces(int i, int n) {
            return i >= 0 && n >= 0 && i <= length && n <= length - i;
        }

        void write(int i, long v) {
            if (hasPlaces(i, 1)) {
                elements[i] = lowestBits(v);
            }
        }

        long elementAt(int i) {
            return hasPlaces(i, 1) ? elements[i] : 0;
        }

        void copyTo(int i, Shelf other, int j, int n) {
            if (hasPlaces(i, n) && other.hasPlaces(j, n)) {
                System.arraycopy(elements, i, other.elements, j, n);
            }
        }

        private long lowestBits(long v) {
            switch (sort) {
                case BYTES: return (byte) v;
                case SHORTS: return (short) v;
                case INTS: return (int) v;
                case BOOLEANS: return v != 0 ? 1 : 0;
                default: return v;
            }
        }
    }

    /** The bodies of tries' ways, and the acts that run through the bodies of their KINDS. */
    private static final class Acts {
        private static final int MOST_BODIES = 50, KINDS = 8, MOST_TRACED = 24, DEEPEST = 40;
        private static final int TRY = 0, WET = 1, ROLLING = 2, GRASS = 3, RUN = 4, BARREL = 5, SMALL = 6, SLIP = 7;
        private static final int SPITS = 0, LANDS = 1, ROLLS = 2, TELLS = 3, WAYS = 4;

        private static final int[] KIND_ABOVE = {-1, TRY, TRY, ROLLING, WET, GRASS, TRY, RUN};
        /** By KIND, then by act: the number of the body that the KIND itself has; 0: none. */
        private static final int[] OWN_BODY = {
            1, 10, 11, 2,
            20, 0, 0, 0,
            0, 30, 0, 0,
            0, 41, 40, 0,
            0, 0, 50, 0,
            0, 0, 0, 60,
            70, 0, 0, 0,
            0, 80, 0, 81};

        private final int[] kinds = new int[MOST_BODIES];
        private final int[] traced = new int[MOST_TRACED];
        private int bodies;
        private int ran;
        private int number;

        static boolean isKind(int kind) {
            return kind >= 0 && kind < KINDS;
        }

        static boolean isUnder(int kind, int above) {
            int at = kind;
            for (int level = 0; level < KINDS && isKind(at); level++) {
                if (at == above) {
                    return true;
                }
                at = KIND_ABOVE[at];
            }
            return false;
        }

        boolean isBody(int body) {
            return body >= 0 && body < bodies;
        }

        boolean isFull() {
            return bodies >= MOST_BODIES;
        }

        int size() {
            return bodies;
        }

        int store(int kind) {
            int stored = bodies;
            if (stored >= 0 && stored < MOST_BODIES) {
                kinds[stored] = kind;
                bodies++;
            }
            return stored;
        }

        int kindOf(int body) {
            return isBody(body) && body < MOST_BODIES ? kinds[body] : TRY;
        }

        int perform(int body, int way, int x) {
            ran = 0;
            if (!isBody(body) || way < 0 || way >= WAYS) {
                return 0;
            }
            number = body;
            return own(way, x, 0);
        }

        int tracedAt(int i) {
            return i >= 0 && i < ran && i < MOST_TRACED ? traced[i] : BAD;
        }

        int howManyRan() {
            return ran;
        }

        private int own(int way, int x, int depth) {
            return from(kindOf(number), way, x, depth);
        }

        private int above(int kind, int way, int x, int depth) {
            return from(isKind(kind) ? KIND_ABOVE[kind] : TRY, way, x, depth);
        }

        private int from(int kind, int way, int x, int depth) {
            int body = bodyFrom(kind, way);
            if (depth > DEEPEST) {
                return 0;
            }
            begin(body);
            return way == SPITS || way == LANDS ? flying(body, x, depth + 1) : ending(body, x, depth + 1);
        }

        private static int bodyFrom(int kind, int way) {
            int at = kind;
            for (int level = 0; level < KINDS && isKind(at); level++) {
                int cell = at * WAYS + way;
                if (cell >= 0 && cell < OWN_BODY.length && OWN_BODY[cell] != 0) {
                    return OWN_BODY[cell];
                }
                at = KIND_ABOVE[at];
            }
            return 0;
        }

        private void begin(int body) {
            if (ran >= 0 && ran < MOST_TRACED) {
                traced[ran] = body;
            }
            ran++;
        }

        /** The bodies of spits and lands. */
        private int flying(int body, int x, int depth) {
            switch (body) {
                case 1: return x + number;
                case 10: return own(SPITS, x, depth) * 2;
                case 20: return above(WET, SPITS, x, depth) + 3;
                case 30: return -above(ROLLING, LANDS, x, depth);
                case 41: return above(GRASS, LANDS, x + 1, depth);
                case 70: return above(SMALL, SPITS, x, depth) * 2;
                case 80: return above(SLIP, LANDS, x, depth) + own(ROLLS, 2, depth);
                default: return 0;
            }
        }

        /** The bodies of rolls and tells. */
        private int ending(int body, int x, int depth) {
            switch (body) {
                case 2: return own(LANDS, x, depth) - own(ROLLS, 1, depth);
                case 11: return x ^ number;
                case 40: return above(GRASS, ROLLS, x, depth) * 3;
                case 50: return above(RUN, ROLLS, x, depth) - own(SPITS, 2, depth);
                case 60: return above(BARREL, TELLS, x, depth) ^ 5;
                case 81: return above(SLIP, TELLS, x, depth) - 1;
                default: return 0;
            }
        }
    }
}
