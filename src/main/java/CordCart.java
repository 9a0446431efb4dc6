import java.util.Arrays;

/**
 * A workshop of cord-led carts: a falling weight draws three cords that are wound forth, back and
 * with slack. What each method promises stands in the project's document.
 */
public final class CordCart {
    public static final int NONE = -1, FULL = -2, UNKNOWN = -3, BLOCKED = -4, UNABLE = -5, SPENT = -6;
    public static final int NOTHING = -11, CAST = -12, PLACE = -13, SIZE = -14, THROWN = -15;

    private static final int AXLES = 3, LEFT_WHEEL = 0, RIGHT_WHEEL = 1, DRUM = 2;
    private static final int FORTH = 0, BACK = 1, SLACK = 2, GAP = 3;
    private static final int MOST_SEGMENTS = 40, LONGEST = 200;
    private static final int FIRST_HARD = 2, HARDEST = 8;
    private static final int MOST_PEGS = 12, FARTHEST_STEP = 400, HIGHEST_ACT = 9;

    private static final int SIDE = 32, CELL = 1000, HALF_CELL = 500, DIRECTIONS = 16;
    private static final int[] HALF_X = {
        500, 462, 354, 191, 0, -191, -354, -462, -500, -462, -354, -191, 0, 191, 354, 462};
    private static final int[] HALF_Y = {
        0, 191, 354, 462, 500, 462, 354, 191, 0, -191, -354, -462, -500, -462, -354, -191};

    private static final int MOST_SAND = 30, HIGHEST_SAND = 9, HIGHEST_HOLD = 9;
    private static final int MOST_FALL = 4000, FIRST_FALL = 2000, MOST_TICKS = 9999;
    private static final int MOST_NOTED = 60, MOST_SLIPS_KEPT = 20;

    private static final int QUARTERS = 4;
    private static final int[] AHEAD_X = {1, 0, -1, 0};
    private static final int[] AHEAD_Y = {0, 1, 0, -1};
    private static final int GO = 0, REST = 1, DO = 2, FACE = 3;
    private static final int MOST_PARTS = 20, LONGEST_PART = 99, LOST_GO = -100;
    private static final int AHEAD = 0, ASTERN = 1, TURN_LEFT = 2, TURN_RIGHT = 3;

    private static final int MOST_SPOTS = 12, MOST_GAPS = 6, MOST_FILLINGS = 729;
    private static final int MOST_SLIPS = AXLES * (MOST_SEGMENTS - 1);

    private static final int TAPES = 6, LONGEST_ROW = 64;
    private static final int EMPTY = 0, BYTES = 1, SHORTS = 2, INTS = 3, LONGS = 4, CARTS = 5;

    private final Cart cart = new Cart();
    private final Pose start = new Pose();
    private final Floor floor = new Floor();
    private final Weight weight = new Weight();
    private final Run run = new Run(cart, start);
    private final Show show = new Show();
    private final Wish wish = new Wish(floor);
    private final Finds finds = new Finds(run, weight);
    private final Tape[] tapes = new Tape[TAPES];
    private int hostRefusals;

    public CordCart() {
        for (int d = 0; d < TAPES; d++) {
            tapes[d] = new Tape();
        }
        reset();
    }

    public int begin() {
        reset();
        return 0;
    }

    public int wind(int axle, int kind, int length, int worn) {
        if (!isAxle(axle) || !isIn(kind, FORTH, GAP) || !isIn(length, 1, LONGEST) || !isIn(worn, 0, 1)) {
            return NONE;
        }
        Cord cord = cart.cords[axle];
        if (cord.count >= MOST_SEGMENTS) {
            return FULL;
        }
        cord.add(kind, length, worn);
        return cord.count;
    }

    public int unwind(int axle) {
        if (!isAxle(axle)) {
            return NONE;
        }
        int had = cart.cords[axle].count;
        cart.cords[axle].count = 0;
        return had;
    }

    public int segment(int axle, int i, int what) {
        if (!isAxle(axle) || !cart.cords[axle].has(i)) {
            return NONE;
        }
        Cord cord = cart.cords[axle];
        switch (what) {
            case 0: return cord.kinds[i];
            case 1: return cord.lengths[i];
            case 2: return cord.worns[i];
            default: return NONE;
        }
    }

    public int hard(int d) {
        if (!isIn(d, 1, HARDEST)) {
            return NONE;
        }
        int was = cart.hard;
        cart.hard = d;
        return was;
    }

    public int peg(int step, int act) {
        if (!isIn(step, -FARTHEST_STEP, FARTHEST_STEP) || !isIn(act, 0, HIGHEST_ACT)) {
            return NONE;
        }
        boolean isFree = cart.actAt(step) == 0;
        if (act == 0 && isFree) {
            return NONE;
        }
        if (isFree && cart.pegs >= MOST_PEGS) {
            return FULL;
        }
        cart.setAct(step, act);
        return cart.pegs;
    }

    public int start(int x, int y, int direction) {
        if (!isCell(x, y) || !isIn(direction, 0, DIRECTIONS - 1)) {
            return NONE;
        }
        start.place(x, y, direction);
        return floor.isFree(x, y) ? 0 : 1;
    }

    public int block(int x, int y) {
        if (!isCell(x, y)) {
            return NONE;
        }
        floor.change(x, y);
        return floor.isFree(x, y) ? 0 : 1;
    }

    public int sand(int d, int n) {
        if (!isTape(d) || !isIn(n, 1, MOST_SAND)) {
            return NONE;
        }
        Tape tape = tapes[d];
        if (tape.sort == EMPTY) {
            return refusedByHost(NOTHING);
        }
        if (tape.sort != BYTES) {
            return refusedByHost(CAST);
        }
        if (n > tape.size) {
            return refusedByHost(PLACE);
        }
        if (!Weight.isSand(tape.elements, n)) {
            return UNABLE;
        }
        weight.takeSand(tape.elements, n);
        return n;
    }

    public int hold(int h) {
        if (!isIn(h, 1, HIGHEST_HOLD)) {
            return NONE;
        }
        int was = weight.hold;
        weight.hold = h;
        return was;
    }

    public int fall(int units) {
        if (!isIn(units, 0, MOST_FALL)) {
            return NONE;
        }
        int was = weight.fall;
        weight.fall = units;
        return was;
    }

    public int cord(int axle) {
        return isAxle(axle) ? cart.cords[axle].units() : NONE;
    }

    public int show() {
        if (cart.gaps() > 0) {
            return UNKNOWN;
        }
        return show.play(run, weight, floor);
    }

    public int pose(int what) throws IllegalArgumentException, IllegalStateException {
        if (!isIn(what, 0, 8)) {
            throw new IllegalArgumentException("no such part of a pose");
        }
        if (!show.isKept) {
            throw new IllegalStateException("no show is kept");
        }
        switch (what) {
            case 5: return show.ticks;
            case 6: return show.noted;
            case 7: return show.slipCount;
            case 8: return show.strayUnits;
            default: return show.pose.part(what);
        }
    }

    public int acted(int i, int what) throws IllegalArgumentException, IllegalStateException {
        if (!isIn(what, 0, 3)) {
            throw new IllegalArgumentException("no such part of an act");
        }
        if (!show.isKept || !isIn(i, 0, show.noted - 1)) {
            throw new IllegalStateException("no such act is noted");
        }
        return show.acts[what][i];
    }

    public int slipped(int i, int what) {
        if (!isIn(what, 0, 2) || !show.isKept || !isIn(i, 0, Math.min(show.slipCount, MOST_SLIPS_KEPT) - 1)) {
            return NONE;
        }
        return show.slips[what][i];
    }

    public int where(int unit, int what) throws IllegalArgumentException, IllegalStateException {
        if (!isIn(what, 0, 4) || !isIn(unit, 0, MOST_FALL)) {
            throw new IllegalArgumentException("no such part of a pose, or no such unit");
        }
        if (cart.gaps() > 0) {
            throw new IllegalStateException("the cords are not whole");
        }
        run.takeKinds();
        run.restart();
        run.goOnTo(Math.min(unit, weight.fall));
        return run.pose.part(what);
    }

    public int wish(int kind, int a, int b) {
        if (!isPart(kind, a, b)) {
            return NONE;
        }
        if (wish.count >= MOST_PARTS) {
            return FULL;
        }
        wish.add(kind, a, b);
        return wish.count;
    }

    public int wishless() {
        int had = wish.count;
        wish.count = 0;
        return had;
    }

    public int way(int x, int y, int q, int tox, int toy) {
        if (!isCell(x, y) || !isIn(q, 0, QUARTERS - 1) || !isCell(tox, toy)) {
            return NONE;
        }
        if (!floor.isFree(x, y)) {
            return BLOCKED;
        }
        int units = floor.measure(x, y, q, tox, toy, QUARTERS * cart.hard);
        return units < 0 ? UNABLE : units;
    }

    public int make() {
        int units = makeWindings();
        if (units >= 0) {
            for (int axle = 0; axle < AXLES; axle++) {
                cart.cords[axle].become(wish.windings[axle]);
            }
        }
        return units;
    }

    public int spot(int unit, int x, int y) {
        if (!isIn(unit, 1, MOST_FALL) || !isCell(x, y)) {
            return NONE;
        }
        if (finds.spots >= MOST_SPOTS) {
            return FULL;
        }
        finds.addSpot(unit, x, y);
        return finds.spots;
    }

    public int spotless() {
        int had = finds.spots;
        finds.spots = 0;
        return had;
    }

    public int miss() {
        return cart.gaps() > 0 ? UNKNOWN : finds.missedSpots();
    }

    public int fillings() {
        if (cart.gaps() > MOST_GAPS) {
            return SPENT;
        }
        finds.findFillings();
        return finds.foundCount;
    }

    public int filling(int i) {
        if (i < 0) {
            return NONE;
        }
        if (cart.gaps() > MOST_GAPS) {
            return SPENT;
        }
        finds.findFillings();
        return finds.foundAt(i);
    }

    public int fill(int number) {
        int gaps = cart.gaps();
        if (number < 0 || number >= Finds.fillingsOf(gaps)) {
            return NONE;
        }
        if (gaps > MOST_GAPS) {
            return SPENT;
        }
        finds.fillCords(number);
        return gaps;
    }

    public int slips() {
        if (cart.gaps() > 0) {
            return UNKNOWN;
        }
        finds.findSlips();
        return finds.foundCount;
    }

    public int slip(int i) {
        if (i < 0) {
            return NONE;
        }
        if (cart.gaps() > 0) {
            return UNKNOWN;
        }
        finds.findSlips();
        return finds.foundAt(i);
    }

    public int pair() {
        return cart.gaps() > 0 ? UNKNOWN : finds.firstPair();
    }

    public int reads() {
        int units = makeWindings();
        if (units < 0) {
            return units;
        }
        for (int axle = 0; axle < AXLES; axle++) {
            if (!cart.cords[axle].isLike(wish.windings[axle])) {
                return 0;
            }
        }
        return 1;
    }

    public int tape(int d, int sort, int n) {
        if (!isTape(d) || !isIn(sort, BYTES, LONGS) || n > LONGEST_ROW) {
            return NONE;
        }
        if (n < 0) {
            return refusedByHost(SIZE);
        }
        tapes[d].becomeRow(sort, n);
        return n;
    }

    public int keep(int d) {
        if (!isTape(d)) {
            return NONE;
        }
        tapes[d].sort = CARTS;
        tapes[d].cart.become(cart);
        return cart.segments();
    }

    public int back(int d) {
        int refusal = refusalOfCart(d);
        if (refusal != 0) {
            return refusal;
        }
        cart.become(tapes[d].cart);
        return cart.segments();
    }

    public int toss(int d) {
        int refusal = refusalOfCart(d);
        if (refusal != 0) {
            return refusal;
        }
        try {
            tapes[d].cart.throwFailure();
        } catch (IllegalStateException failure) {
            return tapes[d].cart.gaps();
        }
        return refusedByHost(THROWN);
    }

    public int clear(int d) {
        if (!isTape(d)) {
            return NONE;
        }
        int held = tapes[d].sort;
        tapes[d].sort = EMPTY;
        return held;
    }

    public int put(int d, int i, long v) {
        if (!isTape(d)) {
            return NONE;
        }
        Tape tape = tapes[d];
        if (tape.sort == EMPTY) {
            return refusedByHost(NOTHING);
        }
        if (!tape.isRow()) {
            return refusedByHost(CAST);
        }
        if (!isIn(i, 0, tape.size - 1)) {
            return refusedByHost(PLACE);
        }
        tape.elements[i] = Tape.narrowed(v, tape.sort);
        return 1;
    }

    public long at(int d, int i) throws IllegalArgumentException, IllegalStateException {
        if (!isTape(d)) {
            throw new IllegalArgumentException("no such tape");
        }
        Tape tape = tapes[d];
        if (!tape.isRow() || !isIn(i, 0, tape.size - 1)) {
            throw new IllegalStateException("no row, or no such place in it");
        }
        return tape.elements[i];
    }

    public int copy(int d, int i, int e, int j, int n) {
        if (!isTape(d) || !isTape(e)) {
            return NONE;
        }
        Tape from = tapes[d];
        Tape to = tapes[e];
        if (from.sort == EMPTY || to.sort == EMPTY) {
            return refusedByHost(NOTHING);
        }
        if (!from.isRow() || from.sort != to.sort) {
            return refusedByHost(CAST);
        }
        if (!from.hasPlaces(i, n) || !to.hasPlaces(j, n)) {
            return refusedByHost(PLACE);
        }
        System.arraycopy(from.elements, i, to.elements, j, n);
        return n;
    }

    public int count(int what) {
        switch (what) {
            case 0: return cart.segments();
            case 1: return cart.pegs;
            case 2: return floor.blockedCells;
            case 3: return wish.count;
            case 4: return finds.spots;
            case 5: return cart.gaps();
            case 6: return hostRefusals;
            default: return NONE;
        }
    }

    private void reset() {
        cart.strip();
        floor.free();
        start.place(0, 0, 0);
        weight.reset();
        wish.count = 0;
        finds.spots = 0;
        show.isKept = false;
        hostRefusals = 0;
    }

    private static boolean isIn(int number, int least, int most) {
        return number >= least && number <= most;
    }

    private static boolean isAxle(int axle) {
        return isIn(axle, 0, AXLES - 1);
    }

    private static boolean isCell(int x, int y) {
        return isIn(x, 0, SIDE - 1) && isIn(y, 0, SIDE - 1);
    }

    private static boolean isTape(int d) {
        return isIn(d, 0, TAPES - 1);
    }

    private static boolean isPart(int kind, int a, int b) {
        switch (kind) {
            case GO: return isCell(a, b);
            case REST:
            case DO: return isIn(a, 1, LONGEST_PART) && b == 0;
            case FACE: return isIn(a, 0, QUARTERS - 1) && b == 0;
            default: return false;
        }
    }

    /** The units of the windings that the wish makes now, or why it makes none. */
    private int makeWindings() {
        if (start.direction % QUARTERS != 0) {
            return UNABLE;
        }
        if (!floor.isFree(start.cellX(), start.cellY())) {
            return BLOCKED;
        }
        int units = wish.windFrom(start, cart.hard);
        if (units < 0) {
            return units;
        }
        if (wish.isOverfull) {
            return FULL;
        }
        return units > weight.fall ? SPENT : units;
    }

    /** 0 if tape d holds a cart. */
    private int refusalOfCart(int d) {
        if (!isTape(d)) {
            return NONE;
        }
        if (tapes[d].sort == EMPTY) {
            return refusedByHost(NOTHING);
        }
        return tapes[d].sort == CARTS ? 0 : refusedByHost(CAST);
    }

    private int refusedByHost(int refusal) {
        hostRefusals++;
        return refusal;
    }

    /** What is wound on one axle. */
    private static final class Cord {
        int count;
        final int[] kinds = new int[MOST_SEGMENTS];
        final int[] lengths = new int[MOST_SEGMENTS];
        final int[] worns = new int[MOST_SEGMENTS];

        boolean has(int i) {
            return i >= 0 && i < count;
        }

        void add(int kind, int length, int worn) {
            if (count < MOST_SEGMENTS) {
                kinds[count] = kind;
                lengths[count] = length;
                worns[count] = worn;
                count++;
            }
        }

        /** Units go on with the last segment if they are of its kind; false if there is no room for all. */
        boolean addUnits(int kind, int units) {
            int rest = units;
            if (count > 0 && kinds[count - 1] == kind) {
                int more = Math.min(rest, LONGEST - lengths[count - 1]);
                lengths[count - 1] += more;
                rest -= more;
            }
            for (int i = count; i < MOST_SEGMENTS && rest > 0; i++) {
                int length = Math.min(rest, LONGEST);
                add(kind, length, 0);
                rest -= length;
            }
            return rest == 0;
        }

        int units() {
            int sum = 0;
            for (int i = 0; i < count; i++) {
                sum += lengths[i];
            }
            return sum;
        }

        int gaps() {
            int gaps = 0;
            for (int i = 0; i < count; i++) {
                if (kinds[i] == GAP) {
                    gaps++;
                }
            }
            return gaps;
        }

        void become(Cord other) {
            count = other.count;
            for (int i = 0; i < count; i++) {
                kinds[i] = other.kinds[i];
                lengths[i] = other.lengths[i];
                worns[i] = other.worns[i];
            }
        }

        boolean isLike(Cord other) {
            if (count != other.count) {
                return false;
            }
            for (int i = 0; i < count; i++) {
                if (kinds[i] != other.kinds[i] || lengths[i] != other.lengths[i] || worns[i] != other.worns[i]) {
                    return false;
                }
            }
            return true;
        }
    }

    /** Cords, pegs, and how hard it turns. */
    private static final class Cart {
        final Cord[] cords = new Cord[AXLES];
        private final int[] acts = new int[2 * FARTHEST_STEP + 1];
        int pegs;
        int hard;

        Cart() {
            for (int axle = 0; axle < AXLES; axle++) {
                cords[axle] = new Cord();
            }
        }

        void strip() {
            for (int axle = 0; axle < AXLES; axle++) {
                cords[axle].count = 0;
            }
            Arrays.fill(acts, 0);
            pegs = 0;
            hard = FIRST_HARD;
        }

        void become(Cart other) {
            for (int axle = 0; axle < AXLES; axle++) {
                cords[axle].become(other.cords[axle]);
            }
            System.arraycopy(other.acts, 0, acts, 0, acts.length);
            pegs = other.pegs;
            hard = other.hard;
        }

        /** The act of the peg at a step, 0 if there is none: the drum may turn beyond all pegs. */
        int actAt(int step) {
            return isIn(step, -FARTHEST_STEP, FARTHEST_STEP) ? acts[step + FARTHEST_STEP] : 0;
        }

        void setAct(int step, int act) {
            if (!isIn(step, -FARTHEST_STEP, FARTHEST_STEP)) {
                return;
            }
            int was = acts[step + FARTHEST_STEP];
            acts[step + FARTHEST_STEP] = act;
            if (was == 0 && act != 0) {
                pegs++;
            }
            if (was != 0 && act == 0) {
                pegs--;
            }
        }

        int segments() {
            int sum = 0;
            for (int axle = 0; axle < AXLES; axle++) {
                sum += cords[axle].count;
            }
            return sum;
        }

        int gaps() {
            int sum = 0;
            for (int axle = 0; axle < AXLES; axle++) {
                sum += cords[axle].gaps();
            }
            return sum;
        }

        void throwFailure() {
            if (gaps() > 0) {
                throw new IllegalStateException("the cart is not whole");
            }
        }
    }

    /** Where a cart stands, in thousandths of a cell, how it is turned, and the drum's step. */
    private static final class Pose {
        private int x;
        private int y;
        int direction;
        private int phase;
        int step;

        void place(int cellX, int cellY, int toward) {
            x = CELL * cellX + HALF_CELL;
            y = CELL * cellY + HALF_CELL;
            direction = toward;
            phase = 0;
            step = 0;
        }

        void become(Pose other) {
            x = other.x;
            y = other.y;
            direction = other.direction;
            phase = other.phase;
            step = other.step;
        }

        int cellX() {
            return Math.floorDiv(x, CELL);
        }

        int cellY() {
            return Math.floorDiv(y, CELL);
        }

        int part(int what) {
            switch (what) {
                case 0: return x;
                case 1: return y;
                case 2: return direction;
                case 3: return phase;
                default: return step;
            }
        }

        /** All units up to a change of direction are alike, so they are taken at once. */
        void roll(int left, int right, int units, int hard) {
            int go = left + right;
            int turn = right - left;
            int rest = units;
            for (int taken = 0; taken < units && rest > 0; taken++) {
                int alike = unitsToChange(turn, 2 * hard);
                if (alike > rest || turn == 0) {
                    alike = rest;
                }
                x += alike * go * HALF_X[direction & (DIRECTIONS - 1)];
                y += alike * go * HALF_Y[direction & (DIRECTIONS - 1)];
                phase += alike * turn;
                changeDirection(2 * hard);
                rest -= alike;
            }
        }

        private int unitsToChange(int turn, int full) {
            int far = turn > 0 ? full - phase : full + phase;
            return turn == 2 || turn == -2 ? (far + 1) / 2 : far;
        }

        private void changeDirection(int full) {
            if (phase >= full) {
                phase -= full;
                direction = (direction + 1) & (DIRECTIONS - 1);
            } else if (phase <= -full) {
                phase += full;
                direction = (direction - 1) & (DIRECTIONS - 1);
            }
        }
    }

    /** The weight: how it falls, and how far. */
    private static final class Weight {
        private final int[] sand = new int[MOST_SAND];
        private int sandCount;
        int hold;
        int fall;

        void reset() {
            sand[0] = 1;
            sandCount = 1;
            hold = HIGHEST_HOLD;
            fall = FIRST_FALL;
        }

        static boolean isSand(long[] row, int n) {
            boolean runs = false;
            for (int i = 0; i < n && i < row.length; i++) {
                if (row[i] < 0 || row[i] > HIGHEST_SAND) {
                    return false;
                }
                runs = runs || row[i] > 0;
            }
            return runs;
        }

        void takeSand(long[] row, int n) {
            sandCount = Math.min(n, MOST_SAND);
            for (int i = 0; i < sandCount && i < row.length; i++) {
                sand[i] = (int) row[i];
            }
        }

        int sandOf(int tick) {
            return sandCount > 0 && tick >= 0 ? sand[tick % sandCount] : 0;
        }
    }

    /** A run of the cart from the start: its pose, and where each cord is. */
    private static final class Run {
        final Cart cart;
        private final Pose start;
        final Pose pose = new Pose();
        /** The kinds that are given: a slip or a filling changes them here, not on the cords. */
        final int[][] kinds = new int[AXLES][MOST_SEGMENTS];
        final int[] places = new int[AXLES];
        private final int[] lefts = new int[AXLES];
        int unit;
        /** Of the units that were given last: which axles ended a segment, and how the drum turned. */
        final boolean[] hasEnded = new boolean[AXLES];
        int drumTurn;

        Run(Cart cart, Pose start) {
            this.cart = cart;
            this.start = start;
        }

        void takeKinds() {
            for (int axle = 0; axle < AXLES; axle++) {
                System.arraycopy(cart.cords[axle].kinds, 0, kinds[axle], 0, MOST_SEGMENTS);
            }
        }

        void restart() {
            pose.become(start);
            unit = 0;
            for (int axle = 0; axle < AXLES; axle++) {
                goToSegment(axle, 0);
            }
        }

        boolean isOut(int axle) {
            return places[axle] >= cart.cords[axle].count;
        }

        boolean areAllOut() {
            return isOut(LEFT_WHEEL) && isOut(RIGHT_WHEEL) && isOut(DRUM);
        }

        void goOnTo(int end) {
            for (int spans = 0; spans <= MOST_FALL && unit < end; spans++) {
                advance(end - unit);
            }
        }

        /** Units in which no cord comes to another segment are alike, so up to so many are given at once. */
        void advance(int most) {
            int units = most;
            for (int axle = 0; axle < AXLES; axle++) {
                if (!isOut(axle) && lefts[axle] < units) {
                    units = lefts[axle];
                }
            }
            pose.roll(turnOf(LEFT_WHEEL), turnOf(RIGHT_WHEEL), units, cart.hard);
            drumTurn = turnOf(DRUM);
            pose.step += units * drumTurn;
            for (int axle = 0; axle < AXLES; axle++) {
                give(axle, units);
            }
            unit += units;
        }

        private int turnOf(int axle) {
            if (isOut(axle)) {
                return 0;
            }
            switch (kinds[axle][places[axle]]) {
                case FORTH: return 1;
                case BACK: return -1;
                default: return 0;
            }
        }

        private void give(int axle, int units) {
            hasEnded[axle] = false;
            if (isOut(axle)) {
                return;
            }
            lefts[axle] -= units;
            if (lefts[axle] <= 0) {
                hasEnded[axle] = true;
                goToSegment(axle, places[axle] + 1);
            }
        }

        private void goToSegment(int axle, int i) {
            Cord cord = cart.cords[axle];
            places[axle] = i;
            lefts[axle] = i >= 0 && i < cord.count ? cord.lengths[i] : 0;
        }
    }

    /** The show that is kept. */
    private static final class Show {
        boolean isKept;
        final Pose pose = new Pose();
        int ticks;
        /** Act, unit, x and y of each that is noted. */
        final int[][] acts = new int[4][MOST_NOTED];
        int noted;
        /** Axle, segment and unit of each that is kept; they are counted beyond these. */
        final int[][] slips = new int[3][MOST_SLIPS_KEPT];
        int slipCount;
        int strayUnits;

        int play(Run run, Weight weight, Floor floor) {
            noted = 0;
            slipCount = 0;
            strayUnits = 0;
            run.takeKinds();
            run.restart();
            for (ticks = 0; ticks < MOST_TICKS && run.unit < weight.fall && !run.areAllOut(); ticks++) {
                int units = weight.sandOf(ticks);
                int end = Math.min(weight.fall, run.unit + units);
                for (int unit = run.unit; unit < end; unit++) {
                    playUnit(run, floor, units > weight.hold);
                }
            }
            pose.become(run.pose);
            isKept = true;
            return run.unit;
        }

        private void playUnit(Run run, Floor floor, boolean slips) {
            run.advance(1);
            noteAct(run);
            if (!floor.isFree(run.pose.cellX(), run.pose.cellY())) {
                strayUnits++;
            }
            for (int axle = 0; axle < AXLES && slips; axle++) {
                slipOn(run, axle);
            }
        }

        private void noteAct(Run run) {
            int act = run.drumTurn == 0 ? 0 : run.cart.actAt(run.pose.step);
            if (act == 0 || noted >= MOST_NOTED) {
                return;
            }
            acts[0][noted] = act;
            acts[1][noted] = run.unit;
            acts[2][noted] = run.pose.cellX();
            acts[3][noted] = run.pose.cellY();
            noted++;
        }

        private void slipOn(Run run, int axle) {
            Cord cord = run.cart.cords[axle];
            int behind = run.places[axle];
            if (!run.hasEnded[axle] || behind < 1 || !cord.has(behind) || cord.worns[behind - 1] == 0) {
                return;
            }
            run.kinds[axle][behind] = SLACK;
            if (slipCount < MOST_SLIPS_KEPT) {
                slips[0][slipCount] = axle;
                slips[1][slipCount] = behind - 1;
                slips[2][slipCount] = run.unit;
            }
            slipCount++;
        }
    }

    /** A row of states of the floor in the order in which they came. */
    private static final class Line {
        private final int[] states = new int[2 * SIDE * SIDE];
        private int head;
        private int tail;

        void empty() {
            head = 0;
            tail = 0;
        }

        boolean isEmpty() {
            return head >= tail;
        }

        void add(int state) {
            if (tail < states.length) {
                states[tail] = state;
                tail++;
            }
        }

        int first() {
            return isEmpty() ? -1 : states[head];
        }

        int take() {
            if (isEmpty()) {
                return -1;
            }
            head++;
            return states[head - 1];
        }
    }

    /**
     * The cells, and the least units between them. As a cart goes ahead and astern alike, only the
     * axis counts on which it stands (0 along x, 1 along y): a state is a cell and an axis.
     */
    private static final class Floor {
        private static final int STATES = 2 * SIDE * SIDE, UNREACHED = 1 << 30;
        private final boolean[] blocked = new boolean[SIDE * SIDE];
        int blockedCells;
        /** From each state to the goal that was measured last; right up to those of the way's first cell. */
        private final int[] units = new int[STATES];
        /** All steps cost one unit and all turns cost alike, so each line stays in order by itself. */
        private final Line stepped = new Line();
        private final Line turned = new Line();
        private int turnUnits;

        void free() {
            for (int cell = 0; cell < SIDE * SIDE; cell++) {
                blocked[cell] = false;
            }
            blockedCells = 0;
        }

        void change(int x, int y) {
            if (!isCell(x, y)) {
                return;
            }
            int cell = y * SIDE + x;
            blocked[cell] = !blocked[cell];
            blockedCells += blocked[cell] ? 1 : -1;
        }

        boolean isFree(int x, int y) {
            return x >= 0 && x < SIDE && y >= 0 && y < SIDE && !blocked[y * SIDE + x];
        }

        /** The least units from a cell and quarter to a cell, -1 if there is no way. */
        int measure(int x, int y, int quarter, int toX, int toY, int unitsOfTurn) {
            Arrays.fill(units, UNREACHED);
            stepped.empty();
            turned.empty();
            turnUnits = unitsOfTurn;
            int wanted = stateOf(x, y, quarter);
            if (!isFree(x, y) || !isFree(toX, toY)) {
                return -1;
            }
            reach(stateOf(toX, toY, 0), 0, stepped);
            reach(stateOf(toX, toY, 1), 0, stepped);
            for (int taken = 0; taken < 2 * STATES; taken++) {
                int state = takeNearest();
                if (state < 0) {
                    return -1;
                }
                if (state == wanted) {
                    return units[state];
                }
                spread(state);
            }
            return -1;
        }

        /** The first move, in their order, by which the measured way can begin with so many units to go. */
        int firstMove(int x, int y, int quarter, int toGo) {
            int aheadX = AHEAD_X[quarter & 3];
            int aheadY = AHEAD_Y[quarter & 3];
            if (isNext(x + aheadX, y + aheadY, quarter, toGo - 1)) {
                return AHEAD;
            }
            if (isNext(x - aheadX, y - aheadY, quarter, toGo - 1)) {
                return ASTERN;
            }
            // To the right lies the same axis as to the left, so LEFT, which is named first, always serves.
            return TURN_LEFT;
        }

        private boolean isNext(int x, int y, int quarter, int toGo) {
            return isFree(x, y) && units[stateOf(x, y, quarter)] == toGo;
        }

        private static int stateOf(int x, int y, int quarter) {
            return (y * SIDE + x) * 2 + (quarter & 1);
        }

        private int takeNearest() {
            if (turned.isEmpty()) {
                return stepped.take();
            }
            if (stepped.isEmpty()) {
                return turned.take();
            }
            return units[turned.first()] < units[stepped.first()] ? turned.take() : stepped.take();
        }

        private void spread(int state) {
            int axis = state & 1;
            int cell = state / 2;
            int x = cell % SIDE;
            int y = cell / SIDE;
            int further = units[state] + 1;
            if (isFree(x + AHEAD_X[axis], y + AHEAD_Y[axis])) {
                reach(stateOf(x + AHEAD_X[axis], y + AHEAD_Y[axis], axis), further, stepped);
            }
            if (isFree(x - AHEAD_X[axis], y - AHEAD_Y[axis])) {
                reach(stateOf(x - AHEAD_X[axis], y - AHEAD_Y[axis], axis), further, stepped);
            }
            reach(stateOf(x, y, 1 - axis), units[state] + turnUnits, turned);
        }

        private void reach(int state, int by, Line line) {
            if (by < units[state]) {
                units[state] = by;
                line.add(state);
            }
        }
    }

    /** The parts of a wish, and the windings that are made from them. */
    private static final class Wish {
        /** No way passes one cell twice with one direction. */
        private static final int MOST_MOVES = SIDE * SIDE * QUARTERS;
        private final Floor floor;
        int count;
        private final int[][] parts = new int[3][MOST_PARTS];
        final Cord[] windings = new Cord[AXLES];
        boolean isOverfull;
        private int units;
        private int x;
        private int y;
        private int quarter;
        private int turnUnits;

        Wish(Floor floor) {
            this.floor = floor;
            for (int axle = 0; axle < AXLES; axle++) {
                windings[axle] = new Cord();
            }
        }

        void add(int kind, int a, int b) {
            if (count < MOST_PARTS) {
                parts[0][count] = kind;
                parts[1][count] = a;
                parts[2][count] = b;
                count++;
            }
        }

        /** The units in all, or -100 less the number of the first part that can't go. */
        int windFrom(Pose start, int hard) {
            for (int axle = 0; axle < AXLES; axle++) {
                windings[axle].count = 0;
            }
            isOverfull = false;
            units = 0;
            x = start.cellX();
            y = start.cellY();
            quarter = start.direction / QUARTERS;
            turnUnits = QUARTERS * hard;
            for (int i = 0; i < count; i++) {
                int a = parts[1][i];
                switch (parts[0][i]) {
                    case GO:
                        if (!goTo(a, parts[2][i])) {
                            return LOST_GO - i;
                        }
                        break;
                    case REST: windUnits(SLACK, SLACK, SLACK, a); break;
                    case DO: windUnits(SLACK, SLACK, FORTH, a); break;
                    default: faceTo(a); break;
                }
            }
            return units;
        }

        private boolean goTo(int toX, int toY) {
            int toGo = floor.measure(x, y, quarter, toX, toY, turnUnits);
            if (toGo < 0) {
                return false;
            }
            for (int moves = 0; moves < MOST_MOVES && toGo > 0; moves++) {
                int before = units;
                move(floor.firstMove(x, y, quarter, toGo));
                toGo -= units - before;
            }
            return true;
        }

        private void faceTo(int toward) {
            switch ((toward - quarter) & 3) {
                case 1: move(TURN_LEFT); break;
                case 2: move(TURN_LEFT); move(TURN_LEFT); break;
                case 3: move(TURN_RIGHT); break;
                default: break;
            }
        }

        private void move(int move) {
            switch (move) {
                case AHEAD:
                    windUnits(FORTH, FORTH, SLACK, 1);
                    x += AHEAD_X[quarter & 3];
                    y += AHEAD_Y[quarter & 3];
                    break;
                case ASTERN:
                    windUnits(BACK, BACK, SLACK, 1);
                    x -= AHEAD_X[quarter & 3];
                    y -= AHEAD_Y[quarter & 3];
                    break;
                case TURN_LEFT:
                    windUnits(BACK, FORTH, SLACK, turnUnits);
                    quarter = (quarter + 1) & 3;
                    break;
                default:
                    windUnits(FORTH, BACK, SLACK, turnUnits);
                    quarter = (quarter - 1) & 3;
                    break;
            }
        }

        private void windUnits(int left, int right, int drum, int more) {
            boolean hasRoom = windings[LEFT_WHEEL].addUnits(left, more);
            hasRoom = windings[RIGHT_WHEEL].addUnits(right, more) && hasRoom;
            hasRoom = windings[DRUM].addUnits(drum, more) && hasRoom;
            isOverfull = isOverfull || !hasRoom;
            units += more;
        }
    }

    /** The spots, and what agrees with them: fillings of gaps, slips and pairs of slips. */
    private static final class Finds {
        private final Run run;
        private final Weight weight;
        int spots;
        /** Unit, x and y of each spot, by unit, so that one run comes to all. */
        private final int[][] spot = new int[3][MOST_SPOTS];
        private int gaps;
        private final int[] gapAxles = new int[MOST_GAPS];
        private final int[] gapPlaces = new int[MOST_GAPS];
        private int slips;
        private final int[] slipAxles = new int[MOST_SLIPS];
        private final int[] slipPlaces = new int[MOST_SLIPS];
        private final int[] found = new int[MOST_FILLINGS];
        int foundCount;

        Finds(Run run, Weight weight) {
            this.run = run;
            this.weight = weight;
        }

        void addSpot(int unit, int x, int y) {
            if (spots >= MOST_SPOTS) {
                return;
            }
            int place = spots;
            for (int i = spots - 1; i >= 0 && spot[0][i] > unit; i--) {
                setSpot(i + 1, spot[0][i], spot[1][i], spot[2][i]);
                place = i;
            }
            setSpot(place, unit, x, y);
            spots++;
        }

        int missedSpots() {
            int missed = 0;
            run.takeKinds();
            run.restart();
            for (int i = 0; i < spots; i++) {
                if (!comesTo(i)) {
                    missed++;
                }
            }
            return missed;
        }

        int foundAt(int i) {
            return i >= 0 && i < foundCount ? found[i] : NONE;
        }

        /** How many fillings so many gaps have; no int is a number beyond those of 20. */
        static long fillingsOf(int gaps) {
            long power = 1;
            for (int i = 0; i < gaps && i < 20; i++) {
                power *= 3;
            }
            return power;
        }

        void findFillings() {
            listGaps();
            run.takeKinds();
            foundCount = 0;
            long fillings = fillingsOf(gaps);
            for (int number = 0; number < fillings && foundCount < MOST_FILLINGS; number++) {
                int rest = number;
                for (int i = 0; i < gaps; i++) {
                    run.kinds[gapAxles[i]][gapPlaces[i]] = rest % 3;
                    rest /= 3;
                }
                if (agrees()) {
                    addFound(number);
                }
            }
        }

        void fillCords(int number) {
            listGaps();
            int rest = number;
            for (int i = 0; i < gaps; i++) {
                run.cart.cords[gapAxles[i]].kinds[gapPlaces[i]] = rest % 3;
                rest /= 3;
            }
        }

        void findSlips() {
            listSlips();
            run.takeKinds();
            foundCount = 0;
            for (int i = 0; i < slips; i++) {
                giveSlip(i);
                if (agrees()) {
                    addFound(100 * slipAxles[i] + slipPlaces[i]);
                }
                takeSlipBack(i);
            }
        }

        int firstPair() {
            listSlips();
            run.takeKinds();
            for (int first = 0; first < slips; first++) {
                giveSlip(first);
                for (int second = first + 1; second < slips; second++) {
                    giveSlip(second);
                    if (agrees()) {
                        return 1000 * first + second;
                    }
                    takeSlipBack(second);
                }
                takeSlipBack(first);
            }
            return NONE;
        }

        private void setSpot(int i, int unit, int x, int y) {
            if (i >= 0 && i < MOST_SPOTS) {
                spot[0][i] = unit;
                spot[1][i] = x;
                spot[2][i] = y;
            }
        }

        private boolean agrees() {
            run.restart();
            for (int i = 0; i < spots; i++) {
                if (!comesTo(i)) {
                    return false;
                }
            }
            return true;
        }

        private boolean comesTo(int i) {
            run.goOnTo(Math.min(spot[0][i], weight.fall));
            return run.pose.cellX() == spot[1][i] && run.pose.cellY() == spot[2][i];
        }

        private void addFound(int number) {
            if (foundCount < MOST_FILLINGS) {
                found[foundCount] = number;
                foundCount++;
            }
        }

        private void listGaps() {
            gaps = 0;
            for (int axle = 0; axle < AXLES; axle++) {
                Cord cord = run.cart.cords[axle];
                for (int i = 0; i < cord.count && gaps < MOST_GAPS; i++) {
                    if (cord.kinds[i] == GAP) {
                        gapAxles[gaps] = axle;
                        gapPlaces[gaps] = i;
                        gaps++;
                    }
                }
            }
        }

        private void listSlips() {
            slips = 0;
            for (int axle = 0; axle < AXLES; axle++) {
                int count = run.cart.cords[axle].count;
                for (int i = 0; i + 1 < count && slips < MOST_SLIPS; i++) {
                    slipAxles[slips] = axle;
                    slipPlaces[slips] = i;
                    slips++;
                }
            }
        }

        private void giveSlip(int i) {
            run.kinds[slipAxles[i]][slipPlaces[i] + 1] = SLACK;
        }

        private void takeSlipBack(int i) {
            int axle = slipAxles[i];
            int behind = slipPlaces[i] + 1;
            run.kinds[axle][behind] = run.cart.cords[axle].kinds[behind];
        }
    }

    /** What a tape holds; the elements of a row are kept narrowed to its sort. */
    private static final class Tape {
        int sort;
        int size;
        final long[] elements = new long[LONGEST_ROW];
        final Cart cart = new Cart();

        boolean isRow() {
            return sort != EMPTY && sort != CARTS;
        }

        void becomeRow(int newSort, int newSize) {
            sort = newSort;
            size = newSize;
            Arrays.fill(elements, 0);
        }

        boolean hasPlaces(int first, int n) {
            return first >= 0 && n >= 0 && n <= size && first <= size - n;
        }

        static long narrowed(long v, int sort) {
            switch (sort) {
                case BYTES: return (byte) v;
                case SHORTS: return (short) v;
                case INTS: return (int) v;
                default: return v;
            }
        }
    }
}
