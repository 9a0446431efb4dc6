/** Promises 1 to 9: a new object, and what is told of the cart and the floor. */
public final class CordsTest {
    public static void main(String[] args) {
        newObject();
        begin();
        wind();
        unwind();
        segment();
        hard();
        peg();
        start();
        block();
        Check.done("CordsTest");
    }

    /** 1, also behind begin(): TAPES are looked at apart. */
    private static void dueAsAtFirst(String when, CordCart x) {
        for (int what = 0; what <= 6; what++) {
            Check.due(when + ": count(" + what + ")", x.count(what), 0);
        }
        for (int axle = 0; axle < 3; axle++) {
            Check.due(when + ": cord(" + axle + ")", x.cord(axle), 0);
        }
        int[] pose = {500, 500, 0, 0, 0};
        for (int what = 0; what < 5; what++) {
            int part = what;
            Check.due(when + ": where(0, " + what + ")", x.where(0, what), pose[what]);
            Check.due(when + ": pose(" + what + ")", Check.answerOf(() -> x.pose(part)), Check.STATE);
        }
        Check.due(when + ": hard(2)", x.hard(2), 2);
        Check.due(when + ": hold(9)", x.hold(9), 9);
        Check.due(when + ": fall(2000)", x.fall(2000), 2000);
        Check.due(when + ": make()", x.make(), 0);
        // The SAND's first row is the 1: a TICK for each unit.
        x.wind(0, 0, 7, 0);
        Check.due(when + ": show()", x.show(), 7);
        Check.due(when + ": ticks", x.pose(5), 7);
        Check.due(when + ": phase", x.pose(3), -3);
    }

    private static void newObject() {
        CordCart x = new CordCart();
        for (int d = 0; d < 6; d++) {
            Check.due("new: clear(" + d + ")", x.clear(d), 0);
        }
        dueAsAtFirst("new", x);
    }

    private static void begin() {
        CordCart x = new CordCart();
        x.wind(0, 0, 5, 1);
        x.wind(1, 3, 5, 0);
        x.wind(2, 1, 5, 0);
        x.show();
        x.unwind(1);
        x.show();
        x.peg(3, 4);
        x.block(4, 4);
        x.wish(1, 5, 0);
        x.spot(3, 3, 3);
        x.hard(7);
        x.start(5, 6, 9);
        x.hold(1);
        x.fall(3);
        x.keep(3);
        x.tape(0, 1, 2);
        x.put(0, 0, 4);
        x.put(0, 1, 2);
        x.sand(0, 2);
        x.put(0, 9, 4);
        Check.due("count(6)", x.count(6), 1);
        Check.due("begin()", x.begin(), 0);
        dueAsAtFirst("begun", x);
        Check.due("begun: at(0, 0)", x.at(0, 0), 4);
        Check.due("begun: clear(0)", x.clear(0), 1);
        Check.due("begun: back(3)", x.back(3), 2);
        Check.due("begun: hard of the tape", x.hard(2), 7);
        Check.due("begun: peg of the tape", x.count(1), 1);
        Check.due("begun: the old cell is free", x.block(4, 4), 1);
        for (int cell : new int[] {0, 31}) {
            x.block(cell, cell);
            x.peg(cell, 9);
            x.begin();
            Check.due("begun: the corner is free", x.start(cell, cell, 0), 0);
            Check.due("begun: no peg there any more", x.peg(cell, 5), 1);
            Check.due("begun: the one to take out", x.peg(cell, 0), 0);
            Check.due("begun: no other to take out", x.peg(cell, 0), -1);
        }
    }

    private static void wind() {
        CordCart x = new CordCart();
        Check.due("wind(-1, 0, 1, 0)", x.wind(-1, 0, 1, 0), -1);
        Check.due("wind(3, 0, 1, 0)", x.wind(3, 0, 1, 0), -1);
        Check.due("wind(0, -1, 1, 0)", x.wind(0, -1, 1, 0), -1);
        Check.due("wind(0, 4, 1, 0)", x.wind(0, 4, 1, 0), -1);
        Check.due("wind(0, 0, 0, 0)", x.wind(0, 0, 0, 0), -1);
        Check.due("wind(0, 0, 201, 0)", x.wind(0, 0, 201, 0), -1);
        Check.due("wind(0, 0, 1, 2)", x.wind(0, 0, 1, 2), -1);
        Check.due("wind(0, 0, 1, -1)", x.wind(0, 0, 1, -1), -1);
        Check.due("nothing is wound", x.count(0), 0);
        for (int axle = 0; axle < 3; axle++) {
            for (int i = 1; i <= 40; i++) {
                Check.due("wind " + i, x.wind(axle, i % 4, 5 * i, i % 2), i);
            }
            Check.due("wind a 41st", x.wind(axle, 0, 1, 0), -2);
            Check.due("NONE is ahead of FULL", x.wind(axle, 4, 1, 0), -1);
        }
        Check.due("count(0)", x.count(0), 120);
        Check.due("the last one's length", x.segment(2, 39, 1), 200);
        Check.due("count(5)", x.count(5), 30);
    }

    private static void unwind() {
        CordCart x = new CordCart();
        x.wind(1, 0, 1, 0);
        x.wind(1, 3, 1, 0);
        x.wind(2, 0, 1, 0);
        Check.due("unwind(-1)", x.unwind(-1), -1);
        Check.due("unwind(3)", x.unwind(3), -1);
        Check.due("unwind(0)", x.unwind(0), 0);
        Check.due("unwind(1)", x.unwind(1), 2);
        Check.due("unwind(1) again", x.unwind(1), 0);
        Check.due("count(0)", x.count(0), 1);
        Check.due("count(5)", x.count(5), 0);
        Check.due("wind anew", x.wind(1, 1, 9, 1), 1);
        Check.due("its kind", x.segment(1, 0, 0), 1);
    }

    private static void segment() {
        CordCart x = new CordCart();
        x.wind(2, 3, 17, 1);
        x.wind(2, 1, 200, 0);
        Check.due("kind", x.segment(2, 0, 0), 3);
        Check.due("length", x.segment(2, 0, 1), 17);
        Check.due("worn", x.segment(2, 0, 2), 1);
        Check.due("second kind", x.segment(2, 1, 0), 1);
        Check.due("second length", x.segment(2, 1, 1), 200);
        Check.due("second worn", x.segment(2, 1, 2), 0);
        Check.due("no third", x.segment(2, 2, 0), -1);
        Check.due("none below", x.segment(2, -1, 0), -1);
        Check.due("no axle", x.segment(3, 0, 0), -1);
        Check.due("no axle below", x.segment(-1, 0, 0), -1);
        Check.due("bare axle", x.segment(0, 0, 0), -1);
        Check.due("no what", x.segment(2, 0, 3), -1);
        Check.due("no what below", x.segment(2, 0, -1), -1);
        Check.due("far", x.segment(2, Integer.MAX_VALUE, 0), -1);
    }

    private static void hard() {
        CordCart x = new CordCart();
        Check.due("hard(0)", x.hard(0), -1);
        Check.due("hard(9)", x.hard(9), -1);
        Check.due("hard(8)", x.hard(8), 2);
        Check.due("hard(1)", x.hard(1), 8);
        Check.due("hard(1) again", x.hard(1), 1);
        // With D 1 the DIRECTION grows behind 2 units of one wheel.
        x.wind(1, 0, 2, 0);
        Check.due("direction", x.where(2, 2), 1);
        x.hard(2);
        Check.due("direction with 2", x.where(2, 2), 0);
    }

    private static void peg() {
        CordCart x = new CordCart();
        Check.due("peg(-401, 1)", x.peg(-401, 1), -1);
        Check.due("peg(401, 1)", x.peg(401, 1), -1);
        Check.due("peg(0, -1)", x.peg(0, -1), -1);
        Check.due("peg(0, 10)", x.peg(0, 10), -1);
        Check.due("peg(0, 0) with none", x.peg(0, 0), -1);
        Check.due("peg(-400, 1)", x.peg(-400, 1), 1);
        Check.due("peg(400, 9)", x.peg(400, 9), 2);
        Check.due("another act there", x.peg(400, 3), 2);
        for (int i = 3; i <= 12; i++) {
            Check.due("peg " + i, x.peg(i, 1), i);
        }
        Check.due("a 13th", x.peg(100, 1), -2);
        Check.due("NONE is ahead of FULL", x.peg(100, 10), -1);
        Check.due("none to take out", x.peg(100, 0), -1);
        Check.due("another act while full", x.peg(5, 9), 12);
        Check.due("taken out", x.peg(400, 0), 11);
        Check.due("again", x.peg(400, 0), -1);
        Check.due("room again", x.peg(100, 1), 12);
        Check.due("count(1)", x.count(1), 12);
        Check.due("one with ACT 1 taken out", x.peg(100, 0), 11);
        x.wind(2, 0, 5, 0);
        x.show();
        Check.due("the last told act is done", x.acted(2, 0), 9);
    }

    private static void start() {
        CordCart x = new CordCart();
        Check.due("start(-1, 0, 0)", x.start(-1, 0, 0), -1);
        Check.due("start(32, 0, 0)", x.start(32, 0, 0), -1);
        Check.due("start(0, -1, 0)", x.start(0, -1, 0), -1);
        Check.due("start(0, 32, 0)", x.start(0, 32, 0), -1);
        Check.due("start(0, 0, -1)", x.start(0, 0, -1), -1);
        Check.due("start(0, 0, 16)", x.start(0, 0, 16), -1);
        Check.due("nothing changed", x.where(0, 0) + x.where(0, 1) + x.where(0, 2), 1000);
        Check.due("start(31, 30, 15)", x.start(31, 30, 15), 0);
        Check.due("x", x.where(0, 0), 31500);
        Check.due("y", x.where(0, 1), 30500);
        Check.due("direction", x.where(0, 2), 15);
        x.block(3, 4);
        Check.due("a blocked cell", x.start(3, 4, 2), 1);
        Check.due("it is the start all the same", x.where(0, 0), 3500);
        Check.due("its neighbour", x.start(4, 3, 2), 0);
    }

    private static void block() {
        CordCart x = new CordCart();
        Check.due("block(-1, 0)", x.block(-1, 0), -1);
        Check.due("block(32, 0)", x.block(32, 0), -1);
        Check.due("block(0, -1)", x.block(0, -1), -1);
        Check.due("block(0, 32)", x.block(0, 32), -1);
        Check.due("count(2)", x.count(2), 0);
        Check.due("block(31, 0)", x.block(31, 0), 1);
        Check.due("block(0, 31)", x.block(0, 31), 1);
        Check.due("count(2) of two", x.count(2), 2);
        Check.due("free again", x.block(31, 0), 0);
        Check.due("count(2) of one", x.count(2), 1);
        Check.due("the other stays", x.start(0, 31, 0), 1);
        Check.due("way from it", x.way(0, 31, 0, 0, 0), -4);
        Check.due("way to the free one", x.way(0, 0, 0, 31, 0), 31);
    }
}
