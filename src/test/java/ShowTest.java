/** Promises 10 to 18: sand, hold, fall, cord, and what a show does. */
public final class ShowTest {
    private static final int[] HALF_X = {500, 462, 354, 191, 0, -191, -354, -462, -500, -462, -354, -191, 0, 191, 354, 462};
    private static final int[] HALF_Y = {0, 191, 354, 462, 500, 462, 354, 191, 0, -191, -354, -462, -500, -462, -354, -191};

    public static void main(String[] args) {
        sand();
        hold();
        fall();
        cord();
        directions();
        turning();
        showEnds();
        showUnits();
        pose();
        acted();
        slipped();
        slipsGoOn();
        kept();
        where();
        Check.done("ShowTest");
    }

    /** The row stays on TAPE 0. */
    private static int sandOf(CordCart x, int... row) {
        x.tape(0, 1, row.length);
        for (int i = 0; i < row.length; i++) {
            x.put(0, i, row[i]);
        }
        return x.sand(0, row.length);
    }

    private static void duePose(String when, CordCart x, int... pose) {
        for (int what = 0; what < pose.length; what++) {
            Check.due(when + ": pose(" + what + ")", x.pose(what), pose[what]);
        }
    }

    private static void dueWhere(String when, CordCart x, int unit, int... pose) {
        for (int what = 0; what < pose.length; what++) {
            Check.due(when + ": where(" + unit + ", " + what + ")", x.where(unit, what), pose[what]);
        }
    }

    private static void sand() {
        CordCart x = new CordCart();
        Check.due("sand(-1, 1)", x.sand(-1, 1), -1);
        Check.due("sand(6, 1)", x.sand(6, 1), -1);
        Check.due("NONE is ahead of NOTHING", x.sand(0, 0), -1);
        Check.due("sand(0, 31)", x.sand(0, 31), -1);
        Check.due("nothing is held", x.sand(0, 1), -11);
        for (int sort = 2; sort <= 4; sort++) {
            x.tape(0, sort, 1);
            x.put(0, 0, 1);
            Check.due("sort " + sort, x.sand(0, 1), -12);
            Check.due("CAST is ahead of PLACE", x.sand(0, 2), -12);
        }
        x.keep(0);
        Check.due("a cart", x.sand(0, 1), -12);
        x.tape(0, 1, 2);
        x.put(0, 0, 10);
        Check.due("PLACE is ahead of UNABLE", x.sand(0, 3), -13);
        Check.due("10", x.sand(0, 2), -5);
        x.put(0, 0, -1);
        x.put(0, 1, 1);
        Check.due("-1", x.sand(0, 2), -5);
        x.put(0, 1, 0);
        x.put(0, 0, 0);
        Check.due("only 0", x.sand(0, 2), -5);
        Check.due("the host's refusals", x.count(6), 9);
        x.wind(0, 2, 20, 0);
        x.show();
        Check.due("the sand of before", x.pose(5), 20);
        x.put(0, 1, 9);
        Check.due("0 and 9", x.sand(0, 2), 2);
        Check.due("show() with 0 and 9", x.show(), 27);
        Check.due("ticks", x.pose(5), 6);
        x.put(0, 1, 1);
        x.show();
        Check.due("the sand is apart from the tape", x.pose(5), 6);
        x.tape(1, 1, 64);
        for (int i = 0; i < 64; i++) {
            x.put(1, i, i < 30 ? 1 : 77);
        }
        Check.due("30 of 64", x.sand(1, 30), 30);
        Check.due("show() by ones", x.show(), 20);
        x.put(1, 0, 5);
        Check.due("the first alone", x.sand(1, 1), 1);
        Check.due("show() by fives", x.show(), 20);
        Check.due("ticks of fives", x.pose(5), 4);
    }

    private static void hold() {
        CordCart x = new CordCart();
        Check.due("hold(0)", x.hold(0), -1);
        Check.due("hold(10)", x.hold(10), -1);
        Check.due("hold(1)", x.hold(1), 9);
        Check.due("hold(9)", x.hold(9), 1);
        sandOf(x, 5);
        x.wind(0, 0, 3, 1);
        x.wind(0, 0, 3, 1);
        x.hold(5);
        x.show();
        Check.due("a number that is not above HOLD", x.pose(7), 0);
        x.hold(4);
        x.show();
        Check.due("a number above HOLD", x.pose(7), 1);
    }

    private static void fall() {
        CordCart x = new CordCart();
        Check.due("fall(-1)", x.fall(-1), -1);
        Check.due("fall(4001)", x.fall(4001), -1);
        Check.due("fall(4000)", x.fall(4000), 2000);
        Check.due("fall(0)", x.fall(0), 4000);
        x.wind(1, 0, 9, 0);
        Check.due("show() without fall", x.show(), 0);
        Check.due("ticks", x.pose(5), 0);
        Check.due("where(9, 2) without fall", x.where(9, 2), 0);
        Check.due("fall(9)", x.fall(9), 0);
        Check.due("show()", x.show(), 9);
    }

    private static void cord() {
        CordCart x = new CordCart();
        x.wind(0, 3, 200, 0);
        x.wind(0, 2, 200, 1);
        x.wind(0, 0, 1, 1);
        x.wind(2, 0, 5, 1);
        Check.due("cord(0)", x.cord(0), 401);
        Check.due("cord(1)", x.cord(1), 0);
        Check.due("cord(2)", x.cord(2), 5);
        Check.due("cord(3)", x.cord(3), -1);
        Check.due("cord(-1)", x.cord(-1), -1);
    }

    private static void directions() {
        CordCart x = new CordCart();
        x.wind(0, 0, 1, 0);
        x.wind(1, 0, 1, 0);
        x.wind(0, 1, 1, 0);
        x.wind(1, 1, 1, 0);
        for (int direction = 0; direction < 16; direction++) {
            x.start(10, 20, direction);
            dueWhere("ahead", x, 1, 10500 + 2 * HALF_X[direction], 20500 + 2 * HALF_Y[direction], direction, 0, 0);
            dueWhere("and astern", x, 2, 10500, 20500, direction, 0, 0);
        }
    }

    private static void turning() {
        CordCart x = new CordCart();
        x.start(10, 10, 15);
        x.wind(1, 0, 11, 0);
        dueWhere("right wheel alone", x, 3, 10500 + 3 * 462, 10500 - 3 * 191, 15, 3, 0);
        dueWhere("right wheel alone", x, 4, 10500 + 4 * 462, 10500 - 4 * 191, 0, 0, 0);
        dueWhere("right wheel alone", x, 11, 10500 + 4 * 462 + 2000 + 3 * 462, 10500 - 4 * 191 + 3 * 191, 1, 3, 0);
        x.wind(0, 2, 11, 0);
        x.wind(0, 0, 8, 0);
        // From PHASE 3 it is 7 units to -4.
        dueWhere("then the left one", x, 17, 10500 + 8 * 462 + 2000 + 5 * 462, 10500 - 191 + 6 * 191, 1, -3, 0);
        dueWhere("then the left one", x, 18, 10500 + 8 * 462 + 2000 + 6 * 462, 10500 - 191 + 7 * 191, 0, 0, 0);
        dueWhere("then the left one", x, 19, 10500 + 8 * 462 + 2000 + 6 * 462 + 500, 10500 - 191 + 7 * 191, 0, -1, 0);
        x.unwind(0);
        x.unwind(1);
        x.start(10, 10, 0);
        x.wind(0, 1, 3, 0);
        x.wind(1, 2, 3, 0);
        x.wind(1, 0, 9, 0);
        // From PHASE 3 it is one unit more of the right wheel to DIRECTION 1.
        dueWhere("left wheel astern", x, 5, 10500 - 1500 + 500 + 462, 10500 + 191, 1, 1, 0);
        x.unwind(0);
        x.unwind(1);
        x.wind(0, 0, 3, 0);
        x.wind(1, 2, 3, 0);
        x.wind(1, 0, 9, 0);
        dueWhere("left, then right", x, 10, 10500 + 1500 + 7 * 500, 10500, 1, 0, 0);
        dueWhere("left, then right", x, 9, 10500 + 1500 + 6 * 500, 10500, 0, 3, 0);
        x.unwind(0);
        x.unwind(1);
        x.wind(0, 1, 200, 0);
        x.wind(1, 0, 200, 0);
        x.start(10, 10, 15);
        dueWhere("on the spot", x, 1, 10500, 10500, 15, 2, 0);
        dueWhere("on the spot", x, 2, 10500, 10500, 0, 0, 0);
        dueWhere("on the spot", x, 35, 10500, 10500, 0, 2, 0);
        x.hard(1);
        dueWhere("on the spot with 1", x, 35, 10500, 10500, 2, 0, 0);
        x.hard(8);
        dueWhere("on the spot with 8", x, 7, 10500, 10500, 15, 14, 0);
        dueWhere("on the spot with 8", x, 8, 10500, 10500, 0, 0, 0);
        x.unwind(0);
        x.unwind(1);
        x.hard(1);
        x.wind(0, 0, 9, 0);
        x.wind(1, 2, 1, 0);
        x.wind(1, 1, 8, 0);
        x.start(10, 10, 0);
        // PHASE -1, then -3 becomes -1.
        dueWhere("odd phases", x, 1, 11000, 10500, 0, -1, 0);
        dueWhere("odd phases", x, 2, 11000, 10500, 15, -1, 0);
        dueWhere("odd phases", x, 9, 11000, 10500, 8, -1, 0);
    }

    private static void showEnds() {
        CordCart x = new CordCart();
        Check.due("show() of bare cords", x.show(), 0);
        duePose("bare", x, 500, 500, 0, 0, 0, 0, 0, 0, 0);
        x.wind(0, 2, 3, 0);
        x.wind(1, 2, 4, 0);
        x.wind(2, 3, 1, 0);
        Check.due("show() with a gap", x.show(), -3);
        x.unwind(2);
        Check.due("the longest cord counts", x.show(), 4);
        sandOf(x, 3);
        Check.due("the units of the last tick come", x.show(), 6);
        Check.due("ticks", x.pose(5), 2);
        x.fall(4);
        Check.due("but for those beyond FALL", x.show(), 4);
        Check.due("ticks", x.pose(5), 2);
        x.fall(3);
        Check.due("FALL used up by a tick", x.show(), 3);
        Check.due("ticks", x.pose(5), 1);
        int[] slow = new int[30];
        slow[3] = 1;
        sandOf(x, slow);
        x.fall(4000);
        for (int i = 0; i < 20; i++) {
            x.wind(0, 2, 200, 0);
        }
        // One unit in each of the ticks 4, 34, .. 9994.
        Check.due("show() of 9,999 ticks", x.show(), 334);
        Check.due("ticks", x.pose(5), 9999);
        sandOf(x, 9);
        Check.due("show() of all of FALL", x.show(), 4000);
        Check.due("ticks", x.pose(5), 445);
    }

    private static void showUnits() {
        CordCart x = new CordCart();
        x.start(3, 3, 0);
        x.wind(0, 0, 2, 0);
        x.wind(0, 1, 1, 0);
        x.wind(0, 2, 1, 0);
        x.wind(0, 0, 4, 0);
        x.wind(1, 0, 3, 0);
        x.wind(2, 1, 9, 0);
        Check.due("show()", x.show(), 9);
        // Units: FF FF BF S- F- F- F- F-, then the drum alone.
        duePose("units", x, 5500 + 4 * 500, 3500, 0, -2, -9, 9, 0, 0, 0);
        Check.due("the same by where", x.where(9, 0), x.pose(0));
        Check.due("ahead of it", x.where(3, 3), 2);
    }

    private static void pose() {
        CordCart x = new CordCart();
        Check.due("pose(-1) is ahead of no show", Check.answerOf(() -> x.pose(-1)), Check.ARGUMENT);
        Check.due("pose(9) is ahead of no show", Check.answerOf(() -> x.pose(9)), Check.ARGUMENT);
        Check.due("pose(0) of no show", Check.answerOf(() -> x.pose(0)), Check.STATE);
        Check.due("pose(8) of no show", Check.answerOf(() -> x.pose(8)), Check.STATE);
        x.start(1, 0, 8);
        x.block(0, 0);
        x.wind(0, 0, 3, 0);
        x.wind(1, 0, 3, 0);
        x.wind(2, 2, 5, 0);
        Check.due("show()", x.show(), 5);
        // Cell 0 is BLOCKED, then -1 and -2; it stands there for two units more.
        duePose("beyond", x, -1500, 500, 8, 0, 0, 5, 0, 0, 5);
        x.block(0, 0);
        Check.due("as it was then", x.pose(8), 5);
        x.show();
        Check.due("a cell that is free now", x.pose(8), 4);
        x.start(30, 30, 2);
        x.show();
        // 30500 + 708 a unit: cell 31, then 31 (31916), then 32.
        duePose("beyond the far corner", x, 32624, 32624, 2, 0, 0, 5, 0, 0, 3);
        Check.due("pose(-1)", Check.answerOf(() -> x.pose(-1)), Check.ARGUMENT);
        Check.due("pose(9)", Check.answerOf(() -> x.pose(9)), Check.ARGUMENT);
    }

    private static void acted() {
        CordCart x = new CordCart();
        Check.due("no what is ahead of no show", Check.answerOf(() -> x.acted(0, 4)), Check.ARGUMENT);
        Check.due("no what below", Check.answerOf(() -> x.acted(0, -1)), Check.ARGUMENT);
        Check.due("no show", Check.answerOf(() -> x.acted(0, 0)), Check.STATE);
        x.start(0, 5, 8);
        x.wind(0, 0, 2, 0);
        x.wind(1, 0, 2, 0);
        x.wind(2, 0, 1, 0);
        x.wind(2, 2, 2, 0);
        x.wind(2, 1, 2, 0);
        x.wind(2, 0, 1, 0);
        x.peg(0, 7);
        x.peg(1, 4);
        x.peg(-1, 9);
        x.show();
        // STEPS 1 1 1 0 -1 0: not at the START, and not while there is slack.
        int[][] due = {{4, 1, -1, 5}, {7, 4, -2, 5}, {9, 5, -2, 5}, {7, 6, -2, 5}};
        Check.due("noted", x.pose(6), 4);
        for (int i = 0; i < 4; i++) {
            for (int what = 0; what < 4; what++) {
                Check.due("acted(" + i + ", " + what + ")", x.acted(i, what), due[i][what]);
            }
        }
        Check.due("no fifth", Check.answerOf(() -> x.acted(4, 0)), Check.STATE);
        Check.due("none below", Check.answerOf(() -> x.acted(-1, 0)), Check.STATE);
        Check.due("far", Check.answerOf(() -> x.acted(Integer.MAX_VALUE, 3)), Check.STATE);
        x.unwind(2);
        for (int i = 1; i <= 12; i++) {
            x.peg(i, 0);
        }
        x.peg(0, 0);
        x.peg(-1, 0);
        for (int i = 1; i <= 12; i++) {
            x.peg(i, i % 9 + 1);
        }
        for (int i = 0; i < 6; i++) {
            x.wind(2, i % 2, 12, 0);
        }
        x.show();
        // 12 forth, 11 back, three times: 69, of which 60 are noted.
        Check.due("up to 60", x.pose(6), 60);
        // 58 by unit 60, then STEPS 11 and 10.
        Check.due("the 60th", x.acted(59, 0), 10 % 9 + 1);
        Check.due("its unit", x.acted(59, 1), 62);
        Check.due("no 61st", Check.answerOf(() -> x.acted(60, 0)), Check.STATE);
        x.unwind(2);
        x.wind(2, 0, 200, 0);
        x.wind(2, 0, 200, 0);
        x.wind(2, 0, 200, 0);
        x.peg(1, 0);
        x.peg(400, 5);
        x.show();
        Check.due("at STEP 400, none beyond", x.pose(6), 12);
        Check.due("act at STEP 400", x.acted(11, 0), 5);
        Check.due("unit of STEP 400", x.acted(11, 1), 400);
        Check.due("STEP", x.pose(4), 600);
    }

    private static void slipped() {
        CordCart x = new CordCart();
        Check.due("no show", x.slipped(0, 0), -1);
        sandOf(x, 3, 2);
        x.hold(2);
        for (int axle = 0; axle < 3; axle++) {
            x.wind(axle, 0, 2, 1);
        }
        x.wind(2, 0, 5, 0);
        x.wind(0, 0, 5, 0);
        x.show();
        // Unit 2 is in a tick of 3; axle 1 has no segment behind.
        Check.due("slips", x.pose(7), 2);
        int[][] due = {{0, 0, 2}, {2, 0, 2}};
        for (int i = 0; i < 2; i++) {
            for (int what = 0; what < 3; what++) {
                Check.due("slipped(" + i + ", " + what + ")", x.slipped(i, what), due[i][what]);
            }
        }
        Check.due("no third", x.slipped(2, 0), -1);
        Check.due("none below", x.slipped(-1, 0), -1);
        Check.due("no what", x.slipped(0, 3), -1);
        Check.due("no what below", x.slipped(0, -1), -1);
        // Units 1 and 2 go ahead, then both cords with more have slack.
        duePose("slack", x, 2500, 500, 0, 0, 2, 3, 0, 2, 0);
        Check.due("the cord stays as it is", x.segment(0, 1, 0), 0);
        Check.due("where() knows no slips", x.where(8, 4), 7);
        sandOf(x, 1, 4);
        x.wind(1, 1, 1, 0);
        x.show();
        Check.due("three in one unit", x.pose(7), 3);
        for (int i = 0; i < 3; i++) {
            Check.due("by axle", x.slipped(i, 0), i);
        }
        sandOf(x, 2, 4);
        x.show();
        Check.due("the last unit of a calm tick", x.pose(7), 0);
        x.begin();
        sandOf(x, 9);
        x.hold(8);
        for (int i = 0; i < 40; i++) {
            x.wind(0, 0, 1, 1);
        }
        Check.due("show()", x.show(), 45);
        Check.due("all slips are counted", x.pose(7), 39);
        Check.due("the 20th is kept", x.slipped(19, 1), 19);
        Check.due("the 20th's unit", x.slipped(19, 2), 20);
        Check.due("the 21st isn't", x.slipped(20, 0), -1);
        x.fall(1);
        x.show();
        Check.due("the sand's number counts, not what comes of it", x.pose(7), 1);
    }

    private static void slipsGoOn() {
        CordCart x = new CordCart();
        sandOf(x, 3);
        x.hold(1);
        x.wind(2, 0, 2, 1);
        x.wind(2, 1, 3, 1);
        x.wind(2, 0, 4, 0);
        x.wind(2, 1, 1, 0);
        x.show();
        // 2 forth; slack for 3 and, as that one is worn, for 4; then 1 back.
        Check.due("slips", x.pose(7), 2);
        Check.due("second slip's segment", x.slipped(1, 1), 1);
        Check.due("second slip's unit", x.slipped(1, 2), 5);
        Check.due("step", x.pose(4), 1);
        Check.due("step without slips", x.where(10, 4), 2);
    }

    private static void kept() {
        CordCart x = new CordCart();
        x.start(4, 4, 4);
        x.wind(2, 0, 3, 0);
        x.peg(2, 6);
        x.show();
        x.start(9, 9, 0);
        x.peg(2, 0);
        x.hard(5);
        x.fall(1);
        x.wind(0, 3, 2, 0);
        Check.due("a refused show", x.show(), -3);
        duePose("the kept one", x, 4500, 4500, 4, 0, 3, 3, 1, 0, 0);
        Check.due("its act", x.acted(0, 0), 6);
        x.unwind(0);
        x.unwind(2);
        Check.due("another one", x.show(), 0);
        duePose("the other one", x, 9500, 9500, 0, 0, 0, 0, 0, 0, 0);
        Check.due("no act of before", Check.answerOf(() -> x.acted(0, 0)), Check.STATE);
        x.begin();
        Check.due("none behind begin()", Check.answerOf(() -> x.pose(0)), Check.STATE);
        Check.due("no act behind begin()", Check.answerOf(() -> x.acted(0, 0)), Check.STATE);
        Check.due("no slip behind begin()", x.slipped(0, 0), -1);
    }

    private static void where() {
        CordCart x = new CordCart();
        x.wind(0, 0, 5, 1);
        x.wind(0, 0, 5, 0);
        x.wind(1, 0, 10, 0);
        x.wind(2, 1, 10, 0);
        sandOf(x, 9);
        x.hold(1);
        dueWhere("at the start", x, 0, 500, 500, 0, 0, 0);
        dueWhere("behind 7, without slips", x, 7, 7500, 500, 0, 0, -7);
        dueWhere("behind all", x, 10, 10500, 500, 0, 0, -10);
        dueWhere("a unit beyond", x, 4000, 10500, 500, 0, 0, -10);
        x.fall(3);
        dueWhere("up to FALL", x, 7, 3500, 500, 0, 0, -3);
        x.wind(2, 3, 1, 0);
        Check.due("not whole", Check.answerOf(() -> x.where(0, 0)), Check.STATE);
        Check.due("no what", Check.answerOf(() -> x.where(0, 5)), Check.ARGUMENT);
        Check.due("no what below", Check.answerOf(() -> x.where(0, -1)), Check.ARGUMENT);
        Check.due("no unit", Check.answerOf(() -> x.where(-1, 0)), Check.ARGUMENT);
        Check.due("no unit beyond", Check.answerOf(() -> x.where(4001, 0)), Check.ARGUMENT);
        Check.due("no show is kept by it", Check.answerOf(() -> x.pose(0)), Check.STATE);
    }
}
