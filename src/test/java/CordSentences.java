/** Promises 1 to 9 and 13, and what term I says of cords, D, PEGS, the floor and the START. */
final class CordSentences {
    private CordSentences() {
    }

    static void hold() {
        newObject();
        begin();
        wind();
        segments();
        unwind();
        segment();
        hard();
        peg();
        start();
        block();
        cord();
    }

    private static void newObject() {
        Check.sentence("1", "As told in I to V.", () -> {
            CordCart x = new CordCart();
            for (int what = 0; what <= 6; what++) {
                Check.due("count(" + what + ")", x.count(what), 0);
            }
            for (int axle = 0; axle < 3; axle++) {
                Check.due("cord(" + axle + ")", x.cord(axle), 0);
            }
            Check.due("reads()", x.reads(), 1);
            Check.due("miss()", x.miss(), 0);
            Check.due("pose(0)", () -> x.pose(0), Check.STATE);
        });
        Check.sentence("1", "As told in I to V.", () -> {
            CordCart one = new CordCart();
            CordCart other = new CordCart();
            Tell.much(one);
            one.hard(8);
            Check.due("objects are apart: count(0)", other.count(0), 0);
            Check.due("objects are apart: hard(2)", other.hard(2), 2);
            Check.due("objects are apart: clear(5)", other.clear(5), 0);
            Check.due("objects are apart: way to a cell that is blocked there", other.way(0, 0, 0, 9, 9), 26);
        });
    }

    private static void begin() {
        Check.sentence("2", "Bare cords", () -> {
            CordCart x = new CordCart();
            for (int axle = 0; axle < 3; axle++) {
                Tell.full(x, axle, Tell.GAP, 200, 1);
            }
            x.begin();
            Check.due("count(0)", x.count(0), 0);
            Check.due("count(5)", x.count(5), 0);
            for (int axle = 0; axle < 3; axle++) {
                Check.due("cord(" + axle + ")", x.cord(axle), 0);
                Check.due("segment(" + axle + ", 0, 0)", x.segment(axle, 0, 0), -1);
                Check.due("wound anew", x.wind(axle, Tell.FORTH, 1, 0), 1);
            }
        });
        Check.sentence("2", "no PEGS", () -> {
            CordCart x = new CordCart();
            int[] steps = {-400, -1, 0, 1, 400};
            for (int step : steps) {
                x.peg(step, 9);
            }
            x.begin();
            Check.due("count(1)", x.count(1), 0);
            for (int step : steps) {
                Check.due("none to take out at " + step, x.peg(step, 0), -1);
            }
            Check.due("the first one anew", x.peg(7, 1), 1);
        });
        Check.sentence("2", "nothing BLOCKED", () -> {
            CordCart x = new CordCart();
            int[][] corners = {{0, 0}, {31, 0}, {0, 31}, {31, 31}, {7, 8}};
            for (int[] cell : corners) {
                x.block(cell[0], cell[1]);
            }
            x.begin();
            Check.due("count(2)", x.count(2), 0);
            for (int[] cell : corners) {
                Check.due("free is " + cell[0] + ", " + cell[1], x.start(cell[0], cell[1], 0), 0);
            }
        });
        Check.sentence("2", "no WISH", () -> {
            CordCart x = new CordCart();
            x.wish(1, 5, 0);
            x.begin();
            Check.due("count(3)", x.count(3), 0);
            Check.due("make()", x.make(), 0);
            Check.due("the first part anew", x.wish(2, 5, 0), 1);
        });
        Check.sentence("2", "no SPOTS", () -> {
            CordCart x = new CordCart();
            x.spot(1, 9, 9);
            x.begin();
            Check.due("count(4)", x.count(4), 0);
            Check.due("miss()", x.miss(), 0);
            Check.due("the first spot anew", x.spot(1, 1, 1), 1);
        });
        Check.sentence("2", "no SHOW", () -> {
            CordCart x = new CordCart();
            Tell.much(x);
            Check.due("a slip ahead of it", x.slipped(0, 0), Tell.LEFT);
            Check.due("an act ahead of it", x.acted(0, 0), 5);
            x.begin();
            Check.due("pose(0)", () -> x.pose(0), Check.STATE);
            Check.due("pose(8)", () -> x.pose(8), Check.STATE);
            Check.due("acted(0, 0)", () -> x.acted(0, 0), Check.STATE);
            Check.due("slipped(0, 0)", x.slipped(0, 0), -1);
        });
        beginsSettings();
        Check.sentence("2", "(TAPES stay)", () -> {
            CordCart x = new CordCart();
            Tell.much(x);
            x.begin();
            Check.due("bytes", x.at(0, 2), 5);
            Check.due("shorts", x.at(1, 1), -300);
            Check.due("ints", x.at(2, 1), -70000);
            Check.due("longs", x.at(4, 0), 1L << 40);
            Check.due("nothing", x.clear(3), 0);
            Check.due("a cart", x.back(5), 7);
            Check.due("its pegs", x.count(1), 2);
            Check.due("its D", x.hard(1), 3);
        });
        Check.sentence("2", ": 0.", () -> {
            CordCart x = new CordCart();
            Check.due("begin() of a new one", x.begin(), 0);
            Tell.much(x);
            Check.due("begin() of one that was told much", x.begin(), 0);
            Check.due("begin() again", x.begin(), 0);
        });
    }

    private static void beginsSettings() {
        Check.sentence("2", "D, START, SAND, HOLD, FALL as at first", () -> {
            CordCart x = new CordCart();
            x.hard(8);
            x.start(9, 8, 7);
            Tell.sand(x, 0, 9);
            x.hold(1);
            x.fall(3);
            x.begin();
            Check.due("hard(2)", x.hard(2), 2);
            Check.due("hold(1)", x.hold(1), 9);
            Check.due("fall(2000)", x.fall(2000), 2000);
            Check.due("START's x", x.where(0, 0), 500);
            Check.due("START's y", x.where(0, 1), 500);
            Check.due("START's DIRECTION", x.where(0, 2), 0);
            x.wind(Tell.DRUM, Tell.SLACK, 5, 0);
            Check.due("show()", x.show(), 5);
            Check.due("a TICK for each unit", x.pose(5), 5);
        });
    }

    private static void wind() {
        Check.sentence("3", "A SEGMENT is wound behind the others of an AXLE: how many it has.", () -> {
            CordCart x = new CordCart();
            for (int axle = 0; axle < 3; axle++) {
                Check.due("the first", x.wind(axle, Tell.BACK, 7 + axle, 1), 1);
                Check.due("the second", x.wind(axle, Tell.GAP, 9 + axle, 0), 2);
            }
            for (int axle = 0; axle < 3; axle++) {
                Check.due("the first's length on " + axle, x.segment(axle, 0, 1), 7 + axle);
                Check.due("the second's length on " + axle, x.segment(axle, 1, 1), 9 + axle);
                Check.due("no third on " + axle, x.segment(axle, 2, 1), -1);
            }
        });
        Check.sentence("3", "NONE: no such AXLE", () -> {
            for (int axle : Check.outside(0, 2)) {
                Twins.due("wind(" + axle + ", 0, 1, 0)", Tell::much, x -> x.wind(axle, 0, 1, 0), -1);
            }
        });
        Check.sentence("3", ", KIND (0 .. 3)", () -> {
            CordCart y = new CordCart();
            for (int kind = 0; kind <= 3; kind++) {
                Check.due("wind(0, " + kind + ", 1, 0)", y.wind(0, kind, 1, 0), kind + 1);
                Check.due("its KIND", y.segment(0, kind, 0), kind);
            }
            for (int kind : Check.outside(0, 3)) {
                Twins.due("wind(1, " + kind + ", 1, 0)", Tell::much, x -> x.wind(1, kind, 1, 0), -1);
            }
        });
        Check.sentence("3", ", length", () -> {
            for (int length : Check.outside(1, 200)) {
                Twins.due("wind(2, 0, " + length + ", 0)", Tell::much, x -> x.wind(2, 0, length, 0), -1);
            }
        });
        Check.sentence("3", "; worn isn't 0 or 1", () -> {
            for (int worn : Check.outside(0, 1)) {
                Twins.due("wind(2, 0, 1, " + worn + ")", Tell::much, x -> x.wind(2, 0, 1, worn), -1);
            }
        });
        Check.sentence("3", "; FULL: 40.", () -> {
            for (int axle = 0; axle < 3; axle++) {
                int full = axle;
                Twins.due("wind(" + axle + ", 0, 1, 0) of 40", x -> Tell.full(x, full, Tell.BACK, 3, 1), x -> x.wind(full, 0, 1, 0), -2);
            }
        });
        Check.sentence("VI", "Of several refusals the one that is named first in a method's words is answered.", () -> {
            CordCart x = new CordCart();
            Tell.full(x, Tell.RIGHT, Tell.FORTH, 1, 0);
            Check.due("KIND, and 40", x.wind(1, 4, 1, 0), -1);
            Check.due("length, and 40", x.wind(1, 0, 0, 0), -1);
            Check.due("length above, and 40", x.wind(1, 0, 201, 0), -1);
            Check.due("worn, and 40", x.wind(1, 0, 1, 2), -1);
            Check.due("40 alone", x.wind(1, 0, 1, 1), -2);
        });
    }

    private static void segments() {
        Check.sentence("I", "The cord on each is a row of up to 40 SEGMENTS", () -> {
            CordCart x = new CordCart();
            for (int axle = 0; axle < 3; axle++) {
                for (int i = 1; i <= 40; i++) {
                    Check.due("SEGMENT " + i + " of " + axle, x.wind(axle, i % 4, 5 * i, i % 2), i);
                }
                Check.due("a 41st of " + axle, x.wind(axle, 0, 1, 0), -2);
            }
            Check.due("count(0)", x.count(0), 120);
            Check.due("count(5)", x.count(5), 30);
            for (int axle = 0; axle < 3; axle++) {
                Check.due("the last one's length", x.segment(axle, 39, 1), 200);
                Check.due("the first one's length", x.segment(axle, 0, 1), 5);
                Check.due("unwound", x.unwind(axle), 40);
                Check.due("room again", x.wind(axle, 0, 1, 0), 1);
            }
        });
        Check.sentence("I", "KIND 0 FORTH, 1 BACK, 2 SLACK, 3 UNKNOWN", () -> {
            CordCart x = new CordCart();
            int[] steps = {5, -5, 0};
            for (int kind = 0; kind < 3; kind++) {
                Tell.cord(x, Tell.DRUM, kind, 5);
                Check.due("STEP behind KIND " + kind, x.where(5, 4), steps[kind]);
                Check.due("count(5)", x.count(5), 0);
            }
            Tell.cord(x, Tell.DRUM, 3, 5);
            Check.due("count(5) with KIND 3", x.count(5), 1);
        });
        Check.sentence("I", "; a length 1 .. 200", () -> {
            CordCart x = new CordCart();
            Check.due("wind(1, 0, 1, 0)", x.wind(1, 0, 1, 0), 1);
            Check.due("wind(1, 0, 200, 0)", x.wind(1, 0, 200, 0), 2);
            Check.due("wind(1, 0, 0, 0)", x.wind(1, 0, 0, 0), -1);
            Check.due("wind(1, 0, 201, 0)", x.wind(1, 0, 201, 0), -1);
            Check.due("cord(1)", x.cord(1), 201);
            Check.due("segment(1, 0, 1)", x.segment(1, 0, 1), 1);
            Check.due("segment(1, 1, 1)", x.segment(1, 1, 1), 200);
        });
        Check.sentence("I", "; it may be WORN.", () -> {
            CordCart x = new CordCart();
            x.wind(0, 0, 5, 1);
            x.wind(0, 0, 5, 0);
            Check.due("WORN", x.segment(0, 0, 2), 1);
            Check.due("not WORN", x.segment(0, 1, 2), 0);
        });
        Check.sentence("I", "WHOLE: no SEGMENT is UNKNOWN.", () -> {
            CordCart bare = new CordCart();
            Check.due("show() of bare cords", bare.show(), 0);
            for (int axle = 0; axle < 3; axle++) {
                CordCart x = new CordCart();
                for (int i = 0; i < 39; i++) {
                    x.wind(axle, Tell.SLACK, 1, 0);
                }
                Check.due("show() of whole cords", x.show(), 39);
                x.wind(axle, Tell.GAP, 1, 0);
                Check.due("show() of cords whose last SEGMENT is UNKNOWN", x.show(), -3);
                x.unwind(axle);
                Check.due("show() without it", x.show(), 0);
            }
        });
    }

    private static void unwind() {
        Check.sentence("4", "An AXLE loses its SEGMENTS: how many it had.", () -> {
            CordCart x = new CordCart();
            Check.due("unwind(1) of a bare one", x.unwind(1), 0);
            x.wind(0, 0, 3, 0);
            x.wind(1, 3, 4, 0);
            x.wind(1, 0, 5, 0);
            Tell.full(x, Tell.DRUM, Tell.FORTH, 1, 0);
            Check.due("unwind(1)", x.unwind(1), 2);
            Check.due("unwind(1) again", x.unwind(1), 0);
            Check.due("cord(1)", x.cord(1), 0);
            Check.due("cord(0) stays", x.cord(0), 3);
            Check.due("count(5)", x.count(5), 0);
            Check.due("unwind(2) of 40", x.unwind(2), 40);
            Check.due("unwind(0)", x.unwind(0), 1);
            Check.due("count(0)", x.count(0), 0);
        });
        Check.sentence("4", "NONE: no such AXLE.", () -> {
            for (int axle : Check.outside(0, 2)) {
                Twins.due("unwind(" + axle + ")", Tell::gaps, x -> x.unwind(axle), -1);
            }
        });
    }

    private static void segment() {
        Check.sentence("5", "Of an AXLE's i-th SEGMENT: what 0 KIND, 1 length, 2 1 if it is WORN, else 0.", () -> {
            CordCart x = new CordCart();
            x.wind(2, 3, 17, 1);
            x.wind(2, 1, 200, 0);
            x.wind(1, 2, 4, 1);
            int[][] due = {{2, 0, 3, 17, 1}, {2, 1, 1, 200, 0}, {1, 0, 2, 4, 1}};
            for (int[] segment : due) {
                for (int what = 0; what < 3; what++) {
                    Check.due("segment(" + segment[0] + ", " + segment[1] + ", " + what + ")",
                        x.segment(segment[0], segment[1], what), segment[2 + what]);
                }
            }
        });
        Check.sentence("5", "NONE: there is none", () -> {
            CordCart x = new CordCart();
            Check.due("of a bare axle", x.segment(0, 0, 0), -1);
            x.wind(0, 0, 9, 1);
            x.wind(0, 0, 9, 1);
            for (int what = 0; what < 3; what++) {
                for (int i : Check.outside(0, 1)) {
                    Check.due("segment(0, " + i + ", " + what + ")", x.segment(0, i, what), -1);
                }
                for (int axle : Check.outside(0, 2)) {
                    Check.due("segment(" + axle + ", 0, " + what + ")", x.segment(axle, 0, what), -1);
                }
            }
            x.unwind(0);
            Check.due("behind unwind(0)", x.segment(0, 0, 1), -1);
            Tell.full(x, 2, Tell.FORTH, 1, 0);
            Check.due("the 40th", x.segment(2, 39, 1), 1);
            Check.due("behind the 40th", x.segment(2, 40, 1), -1);
        });
        Check.sentence("5", ", no such what.", () -> {
            for (int what : Check.outside(0, 2)) {
                Twins.due("segment(0, 0, " + what + ")", Tell::much, x -> x.segment(0, 0, what), -1);
            }
        });
    }

    private static void hard() {
        Check.sentence("I", "D (1 .. 8; 2 at first)", () -> {
            CordCart x = new CordCart();
            Check.due("hard(8) at first", x.hard(8), 2);
            Check.due("hard(1)", x.hard(1), 8);
            Check.due("hard(0)", x.hard(0), -1);
            Check.due("hard(9)", x.hard(9), -1);
            Check.due("hard(1) again", x.hard(1), 1);
        });
        Check.sentence("I", "is how hard the CART turns.", () -> {
            CordCart x = new CordCart();
            Tell.cord(x, Tell.RIGHT, Tell.FORTH, 16);
            for (int d = 1; d <= 8; d++) {
                x.hard(d);
                Check.due("DIRECTION ahead of unit 2 * " + d, x.where(2 * d - 1, 2), 0);
                Check.due("DIRECTION behind unit 2 * " + d, x.where(2 * d, 2), 1);
            }
        });
        Check.sentence("6", "D becomes another: the one it was.", () -> {
            CordCart x = new CordCart();
            int was = 2;
            for (int d : new int[] {1, 8, 3, 3, 7, 2}) {
                Check.due("hard(" + d + ")", x.hard(d), was);
                was = d;
            }
        });
        Check.sentence("6", "NONE: not 1 .. 8.", () -> {
            for (int d : Check.outside(1, 8)) {
                Twins.due("hard(" + d + ")", Tell::much, x -> x.hard(d), -1);
            }
        });
    }

    private static void peg() {
        Check.sentence("I", "The drum has up to 12 PEGS", () -> {
            CordCart x = new CordCart();
            for (int i = 1; i <= 12; i++) {
                Check.due("PEG " + i, x.peg(i, 1), i);
            }
            Check.due("a 13th", x.peg(13, 1), -2);
            Check.due("count(1)", x.count(1), 12);
            Check.due("one is taken out", x.peg(1, 0), 11);
            Check.due("room again", x.peg(13, 1), 12);
        });
        Check.sentence("I", ", each at a STEP (-400 .. 400)", () -> {
            CordCart x = new CordCart();
            Check.due("peg(-400, 1)", x.peg(-400, 1), 1);
            Check.due("peg(400, 1)", x.peg(400, 1), 2);
            Check.due("peg(0, 1)", x.peg(0, 1), 3);
            Check.due("peg(-401, 1)", x.peg(-401, 1), -1);
            Check.due("peg(401, 1)", x.peg(401, 1), -1);
        });
        Check.sentence("I", "with an ACT (1 .. 9)", () -> {
            CordCart x = new CordCart();
            Check.due("peg(1, 1)", x.peg(1, 1), 1);
            Check.due("peg(2, 9)", x.peg(2, 9), 2);
            Check.due("peg(3, 10)", x.peg(3, 10), -1);
            Tell.cord(x, Tell.DRUM, Tell.FORTH, 3);
            x.show();
            Check.due("acted(0, 0)", x.acted(0, 0), 1);
            Check.due("acted(1, 0)", x.acted(1, 0), 9);
            Check.due("acted(2, 0)", () -> x.acted(2, 0), Check.STATE);
        });
        Check.sentence("I", ", no two at one STEP.", () -> {
            CordCart x = new CordCart();
            x.peg(2, 3);
            Check.due("another ACT at the STEP", x.peg(2, 8), 1);
            Tell.cord(x, Tell.DRUM, Tell.FORTH, 4);
            x.show();
            Check.due("pose(6)", x.pose(6), 1);
            Check.due("the last ACT told", x.acted(0, 0), 8);
            Check.due("taken out", x.peg(2, 0), 0);
            Check.due("there is no other there", x.peg(2, 0), -1);
        });
        Check.sentence("7", "A PEG at a STEP gets an ACT (0: it is taken out): how many there are.", () -> {
            CordCart x = new CordCart();
            for (int act = 1; act <= 9; act++) {
                Check.due("peg with ACT " + act, x.peg(10 * act, act), act);
            }
            for (int act = 1; act <= 9; act++) {
                Check.due("that with ACT " + act + " is taken out", x.peg(10 * act, 0), 9 - act);
            }
        });
        Check.sentence("7", "A PEG at a STEP gets an ACT (0: it is taken out): how many there are.", () -> {
            CordCart x = new CordCart();
            Check.due("peg(-400, 5)", x.peg(-400, 5), 1);
            Check.due("peg(400, 6)", x.peg(400, 6), 2);
            Check.due("peg(400, 6) again", x.peg(400, 6), 2);
            Check.due("peg(-400, 0)", x.peg(-400, 0), 1);
            Check.due("peg(400, 0)", x.peg(400, 0), 0);
            Check.due("count(1)", x.count(1), 0);
        });
        pegRefusals();
    }

    private static void elevenAndOne(CordCart x) {
        x.peg(-400, 9);
        for (int step = 1; step <= 11; step++) {
            x.peg(step, 1);
        }
    }

    private static void pegRefusals() {
        Check.sentence("7", "NONE: no such STEP", () -> {
            for (int step : Check.outside(-400, 400)) {
                Twins.due("peg(" + step + ", 1)", Tell::much, x -> x.peg(step, 1), -1);
                Twins.due("peg(" + step + ", 0)", Tell::much, x -> x.peg(step, 0), -1);
            }
        });
        Check.sentence("7", ", ACT (0 .. 9)", () -> {
            for (int act : Check.outside(0, 9)) {
                Twins.due("peg(2, " + act + ")", Tell::much, x -> x.peg(2, act), -1);
                Twins.due("peg(1, " + act + ")", Tell::much, x -> x.peg(1, act), -1);
            }
        });
        Check.sentence("7", ", or none to take out", () -> {
            Twins.due("peg(0, 0) of none", x -> { }, x -> x.peg(0, 0), -1);
            Twins.due("peg(1, 0)", Tell::much, x -> x.peg(1, 0), -1);
            Twins.due("peg(3, 0)", Tell::much, x -> x.peg(3, 0), -1);
        });
        Check.sentence("7", "; FULL: 12, and there is none at the STEP.", () -> {
            Twins.due("peg(12, 1) of 12", CordSentences::elevenAndOne, x -> x.peg(12, 1), -2);
            Twins.due("peg(400, 9) of 12", CordSentences::elevenAndOne, x -> x.peg(400, 9), -2);
            CordCart y = new CordCart();
            elevenAndOne(y);
            Check.due("there is one at the STEP", y.peg(11, 9), 12);
            Check.due("and at -400", y.peg(-400, 1), 12);
        });
        Check.sentence("VI", "Of several refusals the one that is named first in a method's words is answered.", () -> {
            CordCart x = new CordCart();
            elevenAndOne(x);
            Check.due("no such STEP, and 12", x.peg(401, 1), -1);
            Check.due("no such ACT, and 12", x.peg(50, 10), -1);
            Check.due("none to take out, and 12", x.peg(50, 0), -1);
            Check.due("12 alone", x.peg(50, 1), -2);
        });
    }

    private static void start() {
        Check.sentence("I", "THE FLOOR: cells x, y 0 .. 31, some BLOCKED.", () -> {
            CordCart x = new CordCart();
            int[][] corners = {{0, 0}, {31, 0}, {0, 31}, {31, 31}};
            for (int[] cell : corners) {
                Check.due("start at " + cell[0] + ", " + cell[1], x.start(cell[0], cell[1], 0), 0);
                Check.due("block " + cell[0] + ", " + cell[1], x.block(cell[0], cell[1]), 1);
            }
            for (int[] cell : corners) {
                Check.due("start again at " + cell[0] + ", " + cell[1], x.start(cell[0], cell[1], 0), 1);
            }
            Check.due("no cell is taken for another: 31, 1", x.start(31, 1, 0), 0);
            Check.due("no cell is taken for another: 1, 31", x.start(1, 31, 0), 0);
            Check.due("no cell is taken for another: 0, 1", x.start(0, 1, 0), 0);
            Check.due("no cell is taken for another: 0, 30", x.start(0, 30, 0), 0);
        });
        Check.sentence("I", "the START (cell 0, 0, DIRECTION 0 at first)", () -> {
            CordCart x = new CordCart();
            int[] due = {500, 500, 0, 0, 0};
            for (int what = 0; what <= 4; what++) {
                Check.due("where(0, " + what + ")", x.where(0, what), due[what]);
            }
            x.show();
            for (int what = 0; what <= 4; what++) {
                Check.due("pose(" + what + ")", x.pose(what), due[what]);
            }
        });
        Check.sentence("I", ": X = 1000 x + 500, Y = 1000 y + 500, PHASE 0, STEP 0.", () -> {
            CordCart x = new CordCart();
            Tell.cord(x, Tell.LEFT, Tell.FORTH, 3);
            Tell.cord(x, Tell.DRUM, Tell.BACK, 3);
            x.show();
            int[][] cells = {{0, 31, 0}, {31, 0, 15}, {17, 5, 9}};
            for (int[] cell : cells) {
                x.start(cell[0], cell[1], cell[2]);
                int[] due = {1000 * cell[0] + 500, 1000 * cell[1] + 500, cell[2], 0, 0};
                for (int what = 0; what <= 4; what++) {
                    Check.due("where(0, " + what + ")", x.where(0, what), due[what]);
                }
            }
        });
        Check.sentence("8", "The START.", () -> {
            CordCart x = new CordCart();
            for (int direction = 0; direction < 16; direction++) {
                Check.due("start(31, 0, " + direction + ")", x.start(31, 0, direction), 0);
                Check.due("DIRECTION", x.where(0, 2), direction);
                Check.due("x", x.where(0, 0), 31500);
                Check.due("y", x.where(0, 1), 500);
            }
        });
        Check.sentence("8", "NONE: no such cell", () -> {
            for (int beyond : Check.outside(0, 31)) {
                Twins.due("start(" + beyond + ", 0, 0)", Tell::much, x -> x.start(beyond, 0, 0), -1);
                Twins.due("start(0, " + beyond + ", 0)", Tell::much, x -> x.start(0, beyond, 0), -1);
            }
        });
        Check.sentence("8", ", DIRECTION.", () -> {
            for (int direction : Check.outside(0, 15)) {
                Twins.due("start(0, 0, " + direction + ")", Tell::much, x -> x.start(0, 0, direction), -1);
                Twins.due("start(9, 9, " + direction + "), which is blocked", Tell::much, x -> x.start(9, 9, direction), -1);
            }
        });
        Check.sentence("8", "1 if its cell is BLOCKED, else 0.", () -> {
            CordCart x = new CordCart();
            x.block(3, 4);
            Check.due("a blocked cell", x.start(3, 4, 2), 1);
            Check.due("it is the START all the same", x.where(0, 0), 3500);
            Check.due("and its DIRECTION", x.where(0, 2), 2);
            Check.due("its mirror", x.start(4, 3, 0), 0);
            x.block(3, 4);
            Check.due("free again", x.start(3, 4, 0), 0);
        });
    }

    private static void block() {
        Check.sentence("9", "A cell becomes BLOCKED, or free if it was: 1 if it is now, else 0.", () -> {
            CordCart x = new CordCart();
            int[][] cells = {{0, 0}, {31, 0}, {0, 31}, {31, 31}, {5, 9}};
            for (int[] cell : cells) {
                Check.due("block", x.block(cell[0], cell[1]), 1);
                Check.due("again", x.block(cell[0], cell[1]), 0);
                Check.due("and again", x.block(cell[0], cell[1]), 1);
            }
            Check.due("count(2)", x.count(2), 5);
            Check.due("from a blocked cell", x.way(5, 9, 0, 6, 9), -4);
            Check.due("its mirror is free", x.way(9, 5, 0, 9, 5), 0);
            Check.due("free again", x.block(5, 9), 0);
            Check.due("count(2) without it", x.count(2), 4);
            Check.due("from it", x.way(5, 9, 0, 6, 9), 1);
        });
        Check.sentence("9", "NONE: no such cell.", () -> {
            for (int beyond : Check.outside(0, 31)) {
                Twins.due("block(" + beyond + ", 0)", Tell::much, x -> x.block(beyond, 0), -1);
                Twins.due("block(31, " + beyond + ")", Tell::much, x -> x.block(31, beyond), -1);
            }
        });
    }

    private static void cord() {
        Check.sentence("13", "The units that an AXLE's cord has in all.", () -> {
            CordCart x = new CordCart();
            for (int axle = 0; axle < 3; axle++) {
                Check.due("cord(" + axle + ") of a bare one", x.cord(axle), 0);
            }
            Tell.full(x, Tell.LEFT, Tell.BACK, 200, 1);
            x.wind(Tell.RIGHT, Tell.GAP, 7, 0);
            x.wind(Tell.RIGHT, Tell.SLACK, 1, 0);
            Check.due("cord(0)", x.cord(0), 8000);
            Check.due("cord(1)", x.cord(1), 8);
            Check.due("cord(2)", x.cord(2), 0);
            x.fall(0);
            Check.due("cord(0) is more than FALL", x.cord(0), 8000);
        });
        Check.sentence("13", "NONE: no such AXLE.", () -> {
            for (int axle : Check.outside(0, 2)) {
                Twins.due("cord(" + axle + ")", Tell::much, x -> x.cord(axle), -1);
            }
        });
    }
}
