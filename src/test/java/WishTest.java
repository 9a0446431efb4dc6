/** Promises 19 to 22 and 32: wishes, ways, and the windings made from them. */
public final class WishTest {
    private static final int FORTH = 0, BACK = 1, SLACK = 2;

    public static void main(String[] args) {
        wish();
        wishless();
        way();
        ways();
        makeParts();
        makeFaces();
        makeGoes();
        makeLongOnes();
        makeWinding();
        makeRefusals();
        reads();
        Check.done("WishTest");
    }

    /** A cord is told as kind, length, kind, length .. */
    private static void dueCord(String when, CordCart x, int axle, int... cord) {
        for (int i = 0; i < cord.length / 2; i++) {
            Check.due(when + ": kind of " + i + " on " + axle, x.segment(axle, i, 0), cord[2 * i]);
            Check.due(when + ": length of " + i + " on " + axle, x.segment(axle, i, 1), cord[2 * i + 1]);
            Check.due(when + ": worn of " + i + " on " + axle, x.segment(axle, i, 2), 0);
        }
        Check.due(when + ": no more on " + axle, x.segment(axle, cord.length / 2, 0), -1);
    }

    /** Blocks all cells but those of a diagonal stair from 0, 0 (along x first) with so many steps. */
    private static void stair(CordCart x, int steps) {
        for (int cx = 0; cx < 32; cx++) {
            for (int cy = 0; cy < 32; cy++) {
                boolean isOnStair = cy == cx || cy == cx - 1;
                if (!isOnStair || cx + cy > steps) {
                    x.block(cx, cy);
                }
            }
        }
    }

    private static void wish() {
        CordCart x = new CordCart();
        int[][] wrong = {
            {-1, 1, 0}, {4, 1, 0}, {0, -1, 0}, {0, 32, 0}, {0, 0, -1}, {0, 0, 32},
            {1, 0, 0}, {1, 100, 0}, {1, 1, 1}, {1, 1, -1}, {2, 0, 0}, {2, 100, 0}, {2, 1, 1},
            {3, -1, 0}, {3, 4, 0}, {3, 0, 1}};
        for (int[] part : wrong) {
            Check.due("wish " + part[0] + " " + part[1] + " " + part[2], x.wish(part[0], part[1], part[2]), -1);
        }
        Check.due("count(3)", x.count(3), 0);
        int[][] right = {{0, 0, 31}, {0, 31, 0}, {1, 1, 0}, {1, 99, 0}, {2, 1, 0}, {2, 99, 0}, {3, 0, 0}, {3, 3, 0}};
        for (int i = 0; i < 20; i++) {
            int[] part = right[i % right.length];
            Check.due("part " + i, x.wish(part[0], part[1], part[2]), i + 1);
        }
        Check.due("a 21st", x.wish(1, 1, 0), -2);
        Check.due("NONE is ahead of FULL", x.wish(1, 0, 0), -1);
        Check.due("count(3) of 20", x.count(3), 20);
    }

    private static void wishless() {
        CordCart x = new CordCart();
        Check.due("wishless() of none", x.wishless(), 0);
        x.wish(1, 9, 0);
        x.wish(2, 9, 0);
        Check.due("wishless()", x.wishless(), 2);
        Check.due("count(3)", x.count(3), 0);
        Check.due("make()", x.make(), 0);
    }

    private static void way() {
        CordCart x = new CordCart();
        int[][] wrong = {
            {-1, 0, 0, 0, 0}, {32, 0, 0, 0, 0}, {0, -1, 0, 0, 0}, {0, 32, 0, 0, 0}, {0, 0, -1, 0, 0}, {0, 0, 4, 0, 0},
            {0, 0, 0, -1, 0}, {0, 0, 0, 32, 0}, {0, 0, 0, 0, -1}, {0, 0, 0, 0, 32}};
        for (int[] w : wrong) {
            Check.due("a way that is none", x.way(w[0], w[1], w[2], w[3], w[4]), -1);
        }
        Check.due("to itself", x.way(5, 5, 2, 5, 5), 0);
        for (int q = 0; q < 4; q++) {
            Check.due("along x with " + q, x.way(5, 5, q, 9, 5), q % 2 == 0 ? 4 : 12);
            Check.due("back along x with " + q, x.way(9, 5, q, 5, 5), q % 2 == 0 ? 4 : 12);
            Check.due("along y with " + q, x.way(5, 5, q, 5, 9), q % 2 == 1 ? 4 : 12);
            Check.due("across with " + q, x.way(0, 0, q, 31, 31), 70);
        }
        x.hard(8);
        Check.due("across with D 8", x.way(0, 0, 0, 31, 31), 94);
        x.hard(1);
        Check.due("across with D 1", x.way(0, 0, 0, 31, 31), 66);
        x.start(7, 7, 3);
        Check.due("the START is no matter", x.way(0, 0, 0, 1, 0), 1);
        Check.due("no cords are wound", x.count(0), 0);
    }

    private static void ways() {
        CordCart x = new CordCart();
        x.block(2, 0);
        Check.due("from a blocked cell", x.way(2, 0, 0, 0, 0), -4);
        Check.due("from a blocked cell to itself", x.way(2, 0, 0, 2, 0), -4);
        Check.due("to a blocked cell", x.way(0, 0, 0, 2, 0), -5);
        Check.due("NONE is ahead of BLOCKED", x.way(2, 0, 4, 0, 0), -1);
        Check.due("round it", x.way(0, 0, 0, 4, 0), 4 + 2 + 3 * 8);
        Check.due("round it, turned first", x.way(0, 0, 1, 4, 0), 4 + 2 + 2 * 8);
        x.block(2, 1);
        x.block(2, 3);
        Check.due("through the gap", x.way(0, 0, 0, 4, 0), 4 + 4 + 3 * 8);
        x.block(2, 2);
        x.hard(8);
        Check.due("round all", x.way(0, 0, 0, 4, 0), 4 + 8 + 3 * 32);
        x.begin();
        x.block(1, 0);
        x.block(0, 1);
        Check.due("shut in", x.way(0, 0, 0, 5, 5), -5);
        Check.due("shut out", x.way(5, 5, 0, 0, 0), -5);
        x.begin();
        stair(x, 62);
        Check.due("a stair", x.way(0, 0, 0, 31, 31), 62 + 61 * 8);
        Check.due("a stair, turned first", x.way(0, 0, 3, 31, 31), 62 + 62 * 8);
        x.begin();
        // A wall whose only gap is at its far end.
        for (int cy = 0; cy < 31; cy++) {
            x.block(4, cy);
        }
        Check.due("by the far gap", x.way(0, 0, 0, 8, 0), 8 + 62 + 3 * 8);
    }

    private static void makeParts() {
        CordCart x = new CordCart();
        x.wind(0, 3, 5, 1);
        x.wind(1, 0, 5, 1);
        Check.due("make() of no parts", x.make(), 0);
        Check.due("bare", x.count(0), 0);
        x.wish(1, 3, 0);
        Check.due("REST 3", x.make(), 3);
        for (int axle = 0; axle < 3; axle++) {
            dueCord("REST", x, axle, SLACK, 3);
        }
        x.wish(2, 5, 0);
        x.wish(2, 1, 0);
        x.wish(1, 2, 0);
        Check.due("REST 3 DO 5 DO 1 REST 2", x.make(), 11);
        dueCord("DO", x, 0, SLACK, 11);
        dueCord("DO", x, 1, SLACK, 11);
        dueCord("DO", x, 2, SLACK, 3, FORTH, 6, SLACK, 2);
        Check.due("count(3)", x.count(3), 4);
        Check.due("D stays", x.hard(2), 2);
    }

    private static void makeFaces() {
        CordCart x = new CordCart();
        for (int from = 0; from < 4; from++) {
            for (int to = 0; to < 4; to++) {
                for (int d = 1; d <= 8; d += 7) {
                    String when = "FACE " + to + " from " + from + " with D " + d;
                    int turns = Math.floorMod(to - from, 4);
                    x.wishless();
                    x.hard(d);
                    x.start(2, 2, 4 * from);
                    x.wish(3, to, 0);
                    int units = turns == 0 ? 0 : turns == 2 ? 8 * d : 4 * d;
                    Check.due(when, x.make(), units);
                    if (turns == 0) {
                        dueCord(when, x, 0);
                    } else {
                        dueCord(when, x, 0, turns == 3 ? FORTH : BACK, units);
                        dueCord(when, x, 1, turns == 3 ? BACK : FORTH, units);
                        dueCord(when, x, 2, SLACK, units);
                    }
                    x.wish(0, 5, 2);
                    int ahead = to % 2 == 0 ? 3 : 3 + 4 * d;
                    Check.due(when + ", and on", x.make(), units + ahead);
                    int kind = to == 0 || to == 3 ? FORTH : BACK;
                    int last = x.count(0) > 0 ? lastKind(x, 0) : -1;
                    Check.due(when + ", and on: the last kind", last, kind);
                    x.show();
                    Check.due(when + ", and on: x", x.pose(0), 5500);
                    x.wishless();
                    x.wish(3, to, 0);
                    x.make();
                    x.show();
                    Check.due(when + ": direction", x.pose(2), 4 * to);
                    Check.due(when + ": phase", x.pose(3), 0);
                }
            }
        }
    }

    private static int lastKind(CordCart x, int axle) {
        int i = 0;
        while (x.segment(axle, i + 1, 0) >= 0) {
            i++;
        }
        return x.segment(axle, i, 0);
    }

    private static void makeGoes() {
        CordCart x = new CordCart();
        x.start(5, 5, 0);
        x.wish(0, 8, 5);
        Check.due("ahead", x.make(), 3);
        dueCord("ahead", x, 0, FORTH, 3);
        dueCord("ahead", x, 1, FORTH, 3);
        dueCord("ahead", x, 2, SLACK, 3);
        x.start(5, 5, 8);
        Check.due("astern", x.make(), 3);
        dueCord("astern", x, 0, BACK, 3);
        dueCord("astern", x, 1, BACK, 3);
        x.wishless();
        x.wish(0, 7, 7);
        x.start(5, 5, 0);
        // AHEAD is named ahead of LEFT: both along x first.
        Check.due("ahead, then left", x.make(), 12);
        dueCord("ahead, then left", x, 0, FORTH, 2, BACK, 8, FORTH, 2);
        dueCord("ahead, then left", x, 1, FORTH, 12);
        dueCord("ahead, then left", x, 2, SLACK, 12);
        x.start(9, 9, 0);
        // Astern, and behind the LEFT again astern.
        Check.due("astern, then left", x.make(), 12);
        dueCord("astern, then left", x, 0, BACK, 12);
        dueCord("astern, then left", x, 1, BACK, 2, FORTH, 8, BACK, 2);
        x.show();
        Check.due("x", x.pose(0), 7500);
        Check.due("y", x.pose(1), 7500);
        Check.due("direction", x.pose(2), 4);
        x.wishless();
        x.start(5, 5, 0);
        x.wish(0, 5, 4);
        // LEFT is named ahead of RIGHT, so it goes astern.
        Check.due("left", x.make(), 9);
        dueCord("left", x, 0, BACK, 9);
        dueCord("left", x, 1, FORTH, 8, BACK, 1);
        x.wish(2, 3, 0);
        x.wish(0, 5, 4);
        x.wish(0, 7, 4);
        Check.due("from part to part", x.make(), 9 + 3 + 8 + 2);
        // It looks along x at 8 behind the second LEFT.
        dueCord("from part to part", x, 0, BACK, 9, SLACK, 3, BACK, 10);
        dueCord("from part to part", x, 1, FORTH, 8, BACK, 1, SLACK, 3, FORTH, 8, BACK, 2);
        dueCord("from part to part", x, 2, SLACK, 9, FORTH, 3, SLACK, 10);
        x.begin();
        x.start(5, 5, 0);
        x.block(6, 5);
        x.wish(0, 7, 5);
        // Of the ways round, the one that begins LEFT and goes ahead.
        Check.due("round a block", x.make(), 4 + 24);
        dueCord("round a block", x, 0, BACK, 8, FORTH, 1, BACK, 8 + 2 + 8, FORTH, 1);
        x.show();
        Check.due("never in a blocked cell", x.pose(8), 0);
    }

    private static void makeLongOnes() {
        CordCart x = new CordCart();
        for (int i = 0; i < 20; i++) {
            x.wish(1, 99, 0);
        }
        Check.due("20 rests", x.make(), 1980);
        for (int axle = 0; axle < 3; axle++) {
            dueCord("20 rests", x, axle, SLACK, 200, SLACK, 200, SLACK, 200, SLACK, 200, SLACK, 200,
                SLACK, 200, SLACK, 200, SLACK, 200, SLACK, 200, SLACK, 180);
        }
        x.wishless();
        x.wish(1, 99, 0);
        x.wish(1, 99, 0);
        x.wish(1, 2, 0);
        x.make();
        dueCord("just 200", x, 0, SLACK, 200);
        x.wish(1, 1, 0);
        x.make();
        dueCord("one above 200", x, 0, SLACK, 200, SLACK, 1);
    }

    /** Rows of cells with walls between, open at their far and near ends by turns. */
    private static void makeWinding() {
        CordCart x = new CordCart();
        for (int cy = 1; cy < 32; cy += 2) {
            for (int cx = 0; cx < 32; cx++) {
                if (cx != (cy % 4 == 1 ? 31 : 0)) {
                    x.block(cx, cy);
                }
            }
        }
        x.hard(1);
        Check.due("to the far end of the last row", x.way(0, 0, 0, 0, 30), 16 * 31 + 15 * 2 + 30 * 4);
        Check.due("to its near end", x.way(0, 0, 0, 31, 30), 15 * 31 + 15 * 2 + 29 * 4);
        x.wish(0, 31, 20);
        Check.due("eleven rows", x.make(), 11 * 31 + 10 * 2 + 20 * 4);
        x.show();
        Check.due("x", x.pose(0), 31500);
        Check.due("y", x.pose(1), 20500);
        Check.due("never astray", x.pose(8), 0);
        dueCord("eleven rows", x, 0, FORTH, 31, BACK, 4, FORTH, 2, BACK, 4, FORTH, 31, BACK, 10, FORTH, 31, BACK, 4,
            FORTH, 2, BACK, 4, FORTH, 31, BACK, 10, FORTH, 31, BACK, 4, FORTH, 2, BACK, 4, FORTH, 31, BACK, 10,
            FORTH, 31, BACK, 4, FORTH, 2, BACK, 4, FORTH, 31, BACK, 10, FORTH, 31, BACK, 4, FORTH, 2, BACK, 4,
            FORTH, 31, BACK, 10, FORTH, 31);
    }

    private static void makeRefusals() {
        CordCart x = new CordCart();
        x.wind(0, 1, 7, 1);
        x.block(4, 4);
        x.block(9, 9);
        x.start(4, 4, 1);
        x.wish(0, 9, 9);
        Check.due("UNABLE is ahead of BLOCKED", x.make(), -5);
        Check.due("and in reads()", x.reads(), -5);
        x.start(4, 4, 4);
        Check.due("BLOCKED is ahead of a GO that can't", x.make(), -4);
        Check.due("and in reads()", x.reads(), -4);
        x.start(0, 0, 0);
        Check.due("part 0 can't go", x.make(), -100);
        Check.due("and in reads()", x.reads(), -100);
        x.wishless();
        x.fall(0);
        for (int i = 0; i < 19; i++) {
            x.wish(1, 99, 0);
        }
        Check.due("SPENT", x.make(), -6);
        Check.due("and in reads()", x.reads(), -6);
        x.wish(0, 9, 9);
        Check.due("part 19 can't go, ahead of SPENT", x.make(), -119);
        Check.due("nothing changed", x.cord(0), 7);
        Check.due("worn as before", x.segment(0, 0, 2), 1);
        x.wishless();
        x.wish(2, 9, 0);
        x.fall(8);
        Check.due("one unit more than FALL", x.make(), -6);
        x.fall(9);
        Check.due("just FALL", x.make(), 9);
        x.begin();
        stair(x, 62);
        x.wish(0, 31, 31);
        x.fall(4000);
        // The left wheel: F 1, B 8, F 1, B 26, each four turns.
        Check.due("FULL", x.make(), -2);
        Check.due("and in reads()", x.reads(), -2);
        x.fall(0);
        Check.due("FULL is ahead of SPENT", x.make(), -2);
        x.wish(0, 31, 0);
        Check.due("a GO that can't is ahead of FULL", x.make(), -101);
        x.wishless();
        x.fall(4000);
        x.wish(0, 20, 20);
        // 39 turns: the left wheel F 1, B 8, F 1, B 26 nine times, then F 1, B 8, F 1, B 18.
        Check.due("just 40 segments", x.make(), 40 + 39 * 8);
        Check.due("on the left wheel", x.unwind(0), 40);
        x.wishless();
        x.wish(0, 21, 20);
        Check.due("41 of them", x.make(), -2);
        x.begin();
        mirroredStair(x);
        x.start(0, 0, 4);
        x.wish(0, 20, 20);
        // Now the left wheel has 39, and the right one F 9, B 1, F 8, B 1, F 35 .. F 9: 41.
        Check.due("41 on the right wheel alone", x.make(), -2);
        x.wishless();
        x.wish(0, 19, 20);
        Check.due("one step less", x.make(), 39 + 38 * 8);
        Check.due("40 on the right wheel", x.unwind(1), 40);
        Check.due("38 on the left wheel", x.unwind(0), 38);
    }

    /** The stair of stair() with x and y changed. */
    private static void mirroredStair(CordCart x) {
        for (int cx = 0; cx < 32; cx++) {
            for (int cy = 0; cy < 32; cy++) {
                if (cx != cy && cx != cy - 1) {
                    x.block(cx, cy);
                }
            }
        }
    }

    private static void reads() {
        CordCart x = new CordCart();
        Check.due("bare cords, no wish", x.reads(), 1);
        x.wish(0, 2, 0);
        Check.due("bare cords", x.reads(), 0);
        Check.due("nothing is changed", x.count(0), 0);
        x.make();
        Check.due("made", x.reads(), 1);
        x.unwind(2);
        Check.due("without the drum's", x.reads(), 0);
        x.wind(2, 2, 2, 1);
        Check.due("with a worn one", x.reads(), 0);
        x.unwind(2);
        x.wind(2, 2, 1, 0);
        x.wind(2, 2, 1, 0);
        Check.due("in two segments", x.reads(), 0);
        x.unwind(2);
        x.wind(2, 0, 2, 0);
        Check.due("another kind", x.reads(), 0);
        x.unwind(2);
        x.wind(2, 2, 3, 0);
        Check.due("another length", x.reads(), 0);
        x.unwind(2);
        x.wind(2, 2, 2, 0);
        Check.due("wound by hand", x.reads(), 1);
        for (int wheel = 0; wheel < 2; wheel++) {
            x.unwind(wheel);
            x.wind(wheel, 1, 2, 0);
            Check.due("another wheel " + wheel, x.reads(), 0);
            x.make();
        }
        x.start(4, 4, 0);
        Check.due("from another start", x.reads(), 0);
        x.start(0, 7, 0);
        x.wishless();
        x.wish(0, 2, 7);
        Check.due("like ones from elsewhere", x.reads(), 1);
        x.block(2, 7);
        Check.due("no way any more", x.reads(), -100);
    }
}
