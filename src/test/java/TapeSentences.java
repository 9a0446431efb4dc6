/** Terms V and VI, and promises 33 to 41. */
final class TapeSentences {
    private TapeSentences() {
    }

    static void hold() {
        tapes();
        hostsRefusals();
        refused();
        tape();
        tapeRefusals();
        keep();
        back();
        backRefusals();
        toss();
        tossRefusals();
        clear();
        put();
        putRefusals();
        at();
        copy();
        copyOnItself();
        copyNone();
        copyPlaces();
        copyOrder();
        count();
    }

    private static void dueRow(String when, CordCart x, int d, long... row) {
        for (int i = 0; i < row.length; i++) {
            int place = i;
            Check.due(when + ": at(" + d + ", " + i + ")", () -> x.at(d, place), row[i]);
        }
        Check.due(when + ": no more", () -> x.at(d, row.length), Check.STATE);
    }

    private static void tapes() {
        String rule = "TAPES 0 .. 5 each hold nothing (at first), a row of bytes (sort 1), shorts (2), ints (3) or longs (4),"
            + " or a CART (5): its cords, PEGS and D.";
        Check.sentence("V", rule, () -> {
            CordCart x = new CordCart();
            for (int d = 0; d < 6; d++) {
                int tape = d;
                Check.due("at(" + d + ", 0) at first", () -> x.at(tape, 0), Check.STATE);
                Check.due("clear(" + d + ") at first", x.clear(d), 0);
            }
            for (int d = 0; d < 6; d++) {
                for (int sort = 1; sort <= 4; sort++) {
                    Check.due("tape(" + d + ", " + sort + ", 2)", x.tape(d, sort, 2), 2);
                    Check.due("clear(" + d + ")", x.clear(d), sort);
                }
                x.keep(d);
                Check.due("clear(" + d + ") of a cart", x.clear(d), 5);
            }
        });
        Check.sentence("V", "each hold", () -> {
            CordCart x = new CordCart();
            for (int d = 0; d < 6; d++) {
                x.tape(d, 4, 2);
                x.put(d, 1, 100 + d);
            }
            for (int d = 0; d < 6; d++) {
                dueRow("its own row", x, d, 0, 100 + d);
            }
            for (int d = 0; d < 6; d++) {
                x.wind(0, Tell.FORTH, 10 + d, 0);
                x.keep(d);
            }
            for (int d = 0; d < 6; d++) {
                Check.due("its own cart", x.back(d), d + 1);
                Check.due("its last length", x.segment(0, d, 1), 10 + d);
            }
        });
        Check.sentence("V", "a CART (5): its cords, PEGS and D.", () -> {
            CordCart x = new CordCart();
            Tell.much(x);
            x.unwind(0);
            x.peg(2, 0);
            x.hard(8);
            x.start(1, 2, 3);
            x.block(0, 0);
            x.hold(7);
            x.fall(77);
            x.wish(1, 1, 0);
            x.spot(1, 1, 1);
            Check.due("back(5)", x.back(5), 7);
            Check.due("its cords", x.segment(0, 0, 1), 3);
            Check.due("its PEGS", x.count(1), 2);
            Check.due("its D", x.hard(3), 3);
            Check.due("not the START", x.where(0, 2), 3);
            Check.due("not what is BLOCKED", x.count(2), 3);
            Check.due("not HOLD", x.hold(7), 7);
            Check.due("not FALL", x.fall(77), 77);
            Check.due("not the WISH", x.count(3), 4);
            Check.due("not the SPOTS", x.count(4), 3);
        });
    }

    private static void hostsRefusals() {
        String rule = "The host's refusals, caught by their names: NOTHING (-11): nothing is held where something is wanted;"
            + " CAST (-12): it is of another sort; PLACE (-13): a row has no such place; SIZE (-14): a size below 0;"
            + " THROWN (-15): a failure that is none is thrown.";
        Check.sentence("V", rule, () -> {
            CordCart x = new CordCart();
            Check.due("NOTHING", x.put(0, 0, 1), -11);
            x.tape(0, 4, 1);
            Check.due("CAST", x.back(0), -12);
            Check.due("PLACE", x.put(0, 1, 1), -13);
            Check.due("SIZE", x.tape(0, 4, -1), -14);
            x.keep(0);
            Check.due("THROWN", x.toss(0), -15);
            Check.due("count(6)", x.count(6), 5);
        });
    }

    private static void refused() {
        Check.sentence("VI", "What is refused changes nothing.", () -> {
            // The others are told with each promise.
            Twins.due("wind of 201", Tell::much, x -> x.wind(0, 0, 201, 0), -1);
            Twins.due("a wish's part that is none", Tell::much, x -> x.wish(3, 4, 0), -1);
            Twins.due("make() with FALL 0", x -> {
                Tell.much(x);
                x.fall(0);
            }, CordCart::make, -6);
            Twins.due("back() of nothing", Tell::gaps, x -> x.back(3), -11);
            Twins.due("show() with gaps", Tell::gaps, CordCart::show, -3);
        });
        Check.sentence("VI", "NONE (-1): there is no such thing, or a number is not as said.", () -> {
            CordCart x = new CordCart();
            Check.due("no such thing", x.segment(0, 0, 0), CordCart.NONE);
            Check.due("a number not as said", x.hard(9), CordCart.NONE);
            Check.due("NONE", CordCart.NONE, -1);
        });
    }

    private static void tape() {
        Check.sentence("33", "TAPE d gets a row of n elements, all 0, of a sort (1 .. 4): n.", () -> {
            CordCart x = new CordCart();
            for (int sort = 1; sort <= 4; sort++) {
                for (int n : new int[] {0, 1, 64}) {
                    x.tape(sort, sort, 64);
                    x.put(sort, 0, 77);
                    x.put(sort, 63, 78);
                    Check.due("tape(" + sort + ", " + sort + ", " + n + ")", x.tape(sort, sort, n), n);
                    dueRow("a new row", x, sort, n == 64 ? new long[] {0, 0, 0} : new long[n], n);
                }
            }
        });
        Check.sentence("33", "TAPE d gets a row of n elements, all 0", () -> {
            CordCart x = new CordCart();
            x.tape(0, 1, 2);
            x.put(0, 0, 5);
            x.put(0, 1, 6);
            Check.due("of another sort", x.tape(0, 3, 3), 3);
            dueRow("of another sort", x, 0, 0, 0, 0);
            x.put(0, 2, 7);
            Check.due("a shorter one", x.tape(0, 3, 1), 1);
            dueRow("a shorter one", x, 0, 0);
            Check.due("a longer one", x.tape(0, 3, 3), 3);
            dueRow("a longer one", x, 0, 0, 0, 0);
            x.keep(0);
            Check.due("in a cart's stead", x.tape(0, 2, 2), 2);
            dueRow("in a cart's stead", x, 0, 0, 0);
            Check.due("no cart any more", x.back(0), -12);
            Check.due("none is wound", x.count(0), 0);
        });
    }

    private static void dueRow(String when, CordCart x, int d, long[] first, int n) {
        for (int i = 0; i < first.length; i++) {
            int place = i;
            Check.due(when + ": at(" + d + ", " + i + ")", () -> x.at(d, place), first[i]);
        }
        if (n > 0) {
            Check.due(when + ": its last", () -> x.at(d, n - 1), 0);
        }
        Check.due(when + ": no more", () -> x.at(d, n), Check.STATE);
        Check.due(when + ": none below", () -> x.at(d, -1), Check.STATE);
    }

    private static void tapeRefusals() {
        Check.sentence("33", "NONE: no such TAPE", () -> {
            for (int d : Check.outside(0, 5)) {
                Twins.due("tape(" + d + ", 1, 1)", Tell::much, x -> x.tape(d, 1, 1), -1);
            }
        });
        Check.sentence("33", ", sort", () -> {
            for (int sort : Check.outside(1, 4)) {
                Twins.due("tape(0, " + sort + ", 1)", Tell::much, x -> x.tape(0, sort, 1), -1);
            }
        });
        Check.sentence("33", ", n above 64", () -> {
            for (int n : new int[] {65, Integer.MAX_VALUE}) {
                Twins.due("tape(0, 1, " + n + ")", Tell::much, x -> x.tape(0, 1, n), -1);
            }
        });
        Check.sentence("33", "; SIZE.", () -> {
            for (int n : new int[] {-1, -65, Integer.MIN_VALUE}) {
                for (int d = 0; d < 6; d++) {
                    int tape = d;
                    Twins.due("tape(" + d + ", 1, " + n + ")", Tell::much, x -> x.tape(tape, 1, n), -14);
                }
            }
        });
        Check.sentence("VI", "Of several refusals the one that is named first in a method's words is answered.", () -> {
            CordCart x = new CordCart();
            Check.due("no such TAPE, and SIZE", x.tape(6, 1, -1), -1);
            Check.due("no such TAPE below, and SIZE", x.tape(-1, 1, -1), -1);
            Check.due("no such sort, and SIZE", x.tape(0, 5, -1), -1);
            Check.due("no such sort below, and SIZE", x.tape(0, 0, -1), -1);
            Check.due("none of them is the host's", x.count(6), 0);
            Check.due("SIZE alone", x.tape(0, 4, -1), -14);
        });
    }

    private static void keep() {
        Check.sentence("34", "TAPE d gets a CART as it is: how many SEGMENTS it has in all.", () -> {
            CordCart x = new CordCart();
            Check.due("a bare one", x.keep(0), 0);
            for (int axle = 0; axle < 3; axle++) {
                x.wind(axle, Tell.GAP, 7, 1);
                x.wind(axle, Tell.BACK, 8, 0);
            }
            Check.due("one with 6", x.keep(5), 6);
            Check.due("it goes on", x.count(0), 6);
            x.unwind(0);
            x.peg(1, 1);
            x.hard(5);
            Check.due("in a row's stead", x.tape(1, 1, 3) + x.keep(1), 3 + 4);
            Check.due("the one with 6 is as it was", x.back(5), 6);
            Check.due("without the PEG of later", x.count(1), 0);
            Check.due("with D of then", x.hard(2), 2);
            Check.due("the bare one is as it was", x.back(0), 0);
            Check.due("the one with 4", x.back(1), 4);
            Check.due("with its PEG", x.count(1), 1);
            Check.due("and its D", x.hard(5), 5);
            Check.due("in a cart's stead", x.keep(5), 4);
            Check.due("there is the one with 4", x.back(5), 4);
            for (int axle = 0; axle < 3; axle++) {
                Tell.full(x, axle, Tell.FORTH, 200, 1);
            }
            Check.due("one with 120", x.keep(2), 120);
        });
        Check.sentence("34", "NONE: no such TAPE.", () -> {
            for (int d : Check.outside(0, 5)) {
                Twins.due("keep(" + d + ")", Tell::much, x -> x.keep(d), -1);
            }
        });
    }

    private static void back() {
        Check.sentence("35", "The cords, PEGS and D become those of the CART on TAPE d: how many SEGMENTS.", () -> {
            CordCart x = new CordCart();
            x.wind(0, Tell.FORTH, 5, 1);
            x.wind(0, Tell.GAP, 6, 0);
            x.wind(2, Tell.BACK, 7, 0);
            x.peg(-5, 3);
            x.peg(9, 4);
            x.peg(400, 9);
            x.hard(6);
            x.keep(0);
            Tell.full(x, 1, Tell.SLACK, 1, 0);
            x.unwind(0);
            x.peg(-5, 0);
            x.peg(9, 8);
            x.peg(0, 1);
            x.hard(1);
            Check.due("back(0)", x.back(0), 3);
            int[][] due = {{0, 0, Tell.FORTH, 5, 1}, {0, 1, Tell.GAP, 6, 0}, {2, 0, Tell.BACK, 7, 0}};
            for (int[] s : due) {
                for (int what = 0; what < 3; what++) {
                    Check.due("segment(" + s[0] + ", " + s[1] + ", " + what + ")", x.segment(s[0], s[1], what), s[2 + what]);
                }
            }
            Check.due("count(0)", x.count(0), 3);
            Check.due("the other cord is bare", x.cord(1), 0);
            Check.due("PEGS", x.count(1), 3);
            Check.due("no PEG of later", x.peg(0, 0), -1);
            Check.due("the PEG that was taken out", x.peg(-5, 0), 2);
            Check.due("D", x.hard(6), 6);
            Tell.cord(x, 0);
            Tell.cord(x, 2, Tell.FORTH, 9);
            x.show();
            Check.due("the ACT of then", x.acted(0, 0), 4);
        });
        Check.sentence("35", "become those of the CART on TAPE d", () -> {
            CordCart x = new CordCart();
            x.wind(0, Tell.GAP, 5, 0);
            x.keep(0);
            Check.due("back(0)", x.back(0), 1);
            x.fill(1);
            x.wind(0, Tell.FORTH, 5, 0);
            x.peg(3, 3);
            x.hard(4);
            Check.due("the CART on the TAPE is apart", x.toss(0), 1);
            Check.due("back(0) again", x.back(0), 1);
            Check.due("UNKNOWN again", x.count(5), 1);
            Check.due("no PEGS", x.count(1), 0);
            Check.due("D", x.hard(2), 2);
            x.begin();
            Check.due("behind begin()", x.back(0), 1);
            x.clear(0);
            Check.due("the cords stay when the TAPE is cleared", x.count(0), 1);
        });
    }

    private static void backRefusals() {
        Check.sentence("35", "NONE: no such TAPE", () -> {
            for (int d : Check.outside(0, 5)) {
                Twins.due("back(" + d + ")", Tell::much, x -> x.back(d), -1);
            }
        });
        Check.sentence("35", "; NOTHING; CAST.", () -> {
            Twins.due("back(3) of nothing", Tell::much, x -> x.back(3), -11);
            for (int d : new int[] {0, 1, 2, 4}) {
                Twins.due("back(" + d + ") of a row", Tell::much, x -> x.back(d), -12);
            }
            CordCart y = new CordCart();
            y.tape(0, 1, 0);
            Check.due("of a row without places", y.back(0), -12);
            y.keep(0);
            y.clear(0);
            Check.due("of a TAPE that is cleared", y.back(0), -11);
        });
    }

    private static void toss() {
        Check.sentence("36", "The failure of the CART on TAPE d is thrown, and caught: how many of its SEGMENTS are UNKNOWN.", () -> {
            CordCart x = new CordCart();
            int unknown = 0;
            for (int axle = 0; axle < 3; axle++) {
                x.wind(axle, Tell.FORTH, 3, 0);
                for (int i = 0; i < 39; i++) {
                    x.wind(axle, Tell.GAP, 3, 0);
                    unknown++;
                    if (i < 2 || i == 38) {
                        x.keep(axle);
                        Check.due("toss(" + axle + ") of " + unknown, x.toss(axle), unknown);
                    }
                }
            }
            Check.due("the first TAPE's is as it was", x.toss(0), 39);
            Check.due("it is thrown again", x.toss(0), 39);
            Check.due("nothing is the host's refusal", x.count(6), 0);
            Check.due("the CART is there still", x.back(0), 40);
        });
        Twins.due("toss(0) of two", x -> {
            Tell.gaps(x);
            x.keep(0);
        }, x -> x.toss(0), 2);
    }

    private static void tossRefusals() {
        Check.sentence("36", "NONE: no such TAPE", () -> {
            for (int d : Check.outside(0, 5)) {
                Twins.due("toss(" + d + ")", Tell::gaps, x -> x.toss(d), -1);
            }
        });
        Check.sentence("36", "; NOTHING; CAST", () -> {
            Twins.due("toss(3) of nothing", Tell::gaps, x -> x.toss(3), -11);
            for (int d : new int[] {0, 1, 2, 4}) {
                Twins.due("toss(" + d + ") of a row", Tell::gaps, x -> x.toss(d), -12);
            }
        });
        Check.sentence("36", "; THROWN: a WHOLE one has none.", () -> {
            Twins.due("toss(5) of a WHOLE one", Tell::gaps, x -> x.toss(5), -15);
            CordCart x = new CordCart();
            x.keep(0);
            x.wind(0, Tell.GAP, 1, 0);
            Check.due("a bare one", x.toss(0), -15);
            x.keep(1);
            x.fill(2);
            Check.due("one that was kept ahead of fill()", x.toss(1), 1);
            x.keep(1);
            Check.due("filled", x.toss(1), -15);
        });
    }

    private static void clear() {
        Check.sentence("37", "TAPE d holds nothing: what it held (0 nothing, 1 .. 5).", () -> {
            CordCart x = new CordCart();
            Tell.much(x);
            int[] held = {1, 2, 3, 0, 4, 5};
            for (int d = 0; d < 6; d++) {
                int tape = d;
                Check.due("clear(" + d + ")", x.clear(d), held[d]);
                Check.due("clear(" + d + ") again", x.clear(d), 0);
                Check.due("at(" + d + ", 0)", () -> x.at(tape, 0), Check.STATE);
                Check.due("back(" + d + ")", x.back(d), -11);
                Check.due("put(" + d + ", 0, 1)", x.put(d, 0, 1), -11);
            }
            x.tape(2, 3, 0);
            Check.due("a row without places", x.clear(2), 3);
        });
        Check.sentence("37", "NONE: no such TAPE.", () -> {
            for (int d : Check.outside(0, 5)) {
                Twins.due("clear(" + d + ")", Tell::much, x -> x.clear(d), -1);
            }
        });
    }

    private static void put() {
        Check.sentence("38", "Element i of the row on TAPE d becomes v, narrowed to its sort: 1.", () -> {
            long[][] narrowed = {
                {1, 127, 127}, {1, 128, -128}, {1, -128, -128}, {1, -129, 127}, {1, 255, -1}, {1, 256, 0}, {1, 1L << 40, 0},
                {2, 32767, 32767}, {2, 32768, -32768}, {2, -32768, -32768}, {2, -32769, 32767}, {2, 65536, 0}, {2, 65535, -1},
                {3, 2147483647L, 2147483647L}, {3, 2147483648L, -2147483648L}, {3, -2147483649L, 2147483647L}, {3, 1L << 32, 0},
                {4, 2147483648L, 2147483648L}, {4, Long.MAX_VALUE, Long.MAX_VALUE}, {4, Long.MIN_VALUE, Long.MIN_VALUE},
                {1, Long.MAX_VALUE, -1}, {2, Long.MIN_VALUE, 0}, {3, Long.MAX_VALUE, -1}};
            for (long[] told : narrowed) {
                CordCart x = new CordCart();
                x.tape(0, (int) told[0], 3);
                Check.due("put of " + told[1], x.put(0, 1, told[1]), 1);
                dueRow(told[1] + " of sort " + told[0], x, 0, 0, told[2], 0);
            }
        });
        Check.sentence("38", "Element i of the row on TAPE d becomes v", () -> {
            CordCart x = new CordCart();
            for (int sort = 1; sort <= 4; sort++) {
                x.tape(sort, sort, 64);
                Check.due("the first", x.put(sort, 0, 5), 1);
                Check.due("the last", x.put(sort, 63, 6), 1);
                Check.due("the first again", x.put(sort, 0, -7), 1);
                Check.due("is put", x.at(sort, 0), -7);
                Check.due("is put too", x.at(sort, 63), 6);
                Check.due("its neighbour stays", x.at(sort, 62), 0);
            }
        });
    }

    private static void putRefusals() {
        Check.sentence("38", "NONE: no such TAPE", () -> {
            for (int d : Check.outside(0, 5)) {
                Twins.due("put(" + d + ", 0, 1)", Tell::much, x -> x.put(d, 0, 1), -1);
            }
        });
        Check.sentence("38", "; NOTHING; CAST", () -> {
            Twins.due("put(3, 0, 1) of nothing", Tell::much, x -> x.put(3, 0, 1), -11);
            Twins.due("put(5, 0, 1) of a cart", Tell::much, x -> x.put(5, 0, 1), -12);
        });
        Check.sentence("38", "; PLACE.", () -> {
            for (int i : Check.outside(0, 2)) {
                Twins.due("put(0, " + i + ", 1) of 3", Tell::much, x -> x.put(0, i, 1), -13);
            }
            CordCart y = new CordCart();
            y.tape(0, 4, 0);
            Check.due("of a row without places", y.put(0, 0, 1), -13);
            y.tape(0, 4, 64);
            Check.due("of 64", y.put(0, 64, 1), -13);
        });
        Check.sentence("VI", "Of several refusals the one that is named first in a method's words is answered.", () -> {
            CordCart x = new CordCart();
            Check.due("no such TAPE, and no such place", x.put(6, -1, 1), -1);
            Check.due("nothing, and no such place", x.put(0, -1, 1), -11);
            x.keep(0);
            Check.due("a cart, and no such place", x.put(0, -1, 1), -12);
        });
    }

    private static void at() {
        Check.sentence("39", "Element i of the row on TAPE d.", () -> {
            CordCart x = new CordCart();
            for (int sort = 1; sort <= 4; sort++) {
                Tell.row(x, 5, sort, 5, -6, 0, 100);
                dueRow("of sort " + sort, x, 5, 5, -6, 0, 100);
            }
        });
        Check.sentence("39", "IllegalArgumentException: no such TAPE", () -> {
            for (int d : Check.outside(0, 5)) {
                Twins.due("at(" + d + ", 0)", Tell::much, x -> x.at(d, 0), Check.ARGUMENT);
                Twins.due("at(" + d + ", -1)", Tell::much, x -> x.at(d, -1), Check.ARGUMENT);
            }
        });
        Check.sentence("39", "; IllegalStateException: it holds no row", () -> {
            Twins.due("at(3, 0) of nothing", Tell::much, x -> x.at(3, 0), Check.STATE);
            Twins.due("at(5, 0) of a cart", Tell::much, x -> x.at(5, 0), Check.STATE);
        });
        Check.sentence("39", ", or that has no such place.", () -> {
            int[] sizes = {3, 2, 3, 0, 4};
            for (int d : new int[] {0, 1, 2, 4}) {
                for (int i : Check.outside(0, sizes[d] - 1)) {
                    Twins.due("at(" + d + ", " + i + ")", Tell::much, x -> x.at(d, i), Check.STATE);
                }
            }
            CordCart y = new CordCart();
            y.tape(0, 1, 0);
            Check.due("of a row without places", () -> y.at(0, 0), Check.STATE);
        });
    }

    private static void copy() {
        String rule = "n elements of the row on TAPE d from place i on go to the row on TAPE e from place j on (as they all were before): n.";
        Check.sentence("40", rule, () -> {
            for (int sort = 1; sort <= 4; sort++) {
                CordCart x = new CordCart();
                Tell.row(x, 0, sort, 1, -2, 3, 4, 5);
                Tell.row(x, 1, sort, 7, 8, 9);
                Check.due("two to the middle", x.copy(0, 1, 1, 1, 2), 2);
                dueRow("two to the middle", x, 1, 7, -2, 3);
                Check.due("a whole row", x.copy(1, 0, 0, 2, 3), 3);
                dueRow("a whole row", x, 0, 1, -2, 7, -2, 3);
                Check.due("the last one", x.copy(0, 4, 1, 0, 1), 1);
                dueRow("the last one", x, 1, 3, -2, 3);
                dueRow("what they come from stays", x, 0, 1, -2, 7, -2, 3);
                x.tape(2, sort, 64);
                x.tape(3, sort, 64);
                x.put(2, 63, 99);
                x.put(2, 0, 98);
                Check.due("64", x.copy(2, 0, 3, 0, 64), 64);
                Check.due("the first of 64", x.at(3, 0), 98);
                Check.due("the last of 64", x.at(3, 63), 99);
            }
        });
        Check.sentence("40", "go to the row on TAPE e", () -> {
            CordCart x = new CordCart();
            Tell.row(x, 0, 3, 1, 2, 3);
            Tell.row(x, 5, 3, 7, 8, 9);
            x.copy(0, 0, 5, 0, 3);
            x.put(0, 0, 50);
            Check.due("the rows are apart", x.at(5, 0), 1);
            x.put(5, 1, 60);
            Check.due("the rows are apart on the other side", x.at(0, 1), 2);
        });
    }

    private static void copyOnItself() {
        Check.sentence("40", "(as they all were before)", () -> {
            for (int sort = 1; sort <= 4; sort++) {
                CordCart x = new CordCart();
                Tell.row(x, 0, sort, 1, 2, 3, 4, 5);
                Check.due("up by one", x.copy(0, 0, 0, 1, 4), 4);
                dueRow("up by one", x, 0, 1, 1, 2, 3, 4);
                Tell.row(x, 0, sort, 1, 2, 3, 4, 5);
                Check.due("down by one", x.copy(0, 1, 0, 0, 4), 4);
                dueRow("down by one", x, 0, 2, 3, 4, 5, 5);
                Tell.row(x, 0, sort, 1, 2, 3, 4, 5);
                Check.due("up by two", x.copy(0, 0, 0, 2, 3), 3);
                dueRow("up by two", x, 0, 1, 2, 1, 2, 3);
                Check.due("on its own place", x.copy(0, 0, 0, 0, 5), 5);
                dueRow("on its own place", x, 0, 1, 2, 1, 2, 3);
            }
        });
    }

    /** Bytes on 0, ints on 1, 2 and 3, a CART on 4, nothing on 5. */
    private static void rows(CordCart x) {
        x.wind(0, Tell.FORTH, 3, 0);
        Tell.row(x, 0, 1, 1, 2, 3);
        Tell.row(x, 1, 3, 4, 5, 6);
        Tell.row(x, 2, 3, 7, 8);
        x.tape(3, 3, 0);
        x.keep(4);
    }

    private static void dueCopy(int d, int i, int e, int j, int n, int due) {
        String call = "copy(" + d + ", " + i + ", " + e + ", " + j + ", " + n + ")";
        Twins.due(call, TapeSentences::rows, x -> x.copy(d, i, e, j, n), due);
    }

    private static void copyNone() {
        Check.sentence("40", "NONE: no such TAPE", () -> {
            for (int beyond : Check.outside(0, 5)) {
                dueCopy(beyond, 0, 1, 0, 1, -1);
                dueCopy(1, 0, beyond, 0, 1, -1);
            }
        });
        Check.sentence("40", "; NOTHING: of either", () -> {
            dueCopy(5, 0, 1, 0, 1, -11);
            dueCopy(1, 0, 5, 0, 1, -11);
            dueCopy(5, 0, 5, 0, 1, -11);
            dueCopy(5, 0, 5, 0, 0, -11);
        });
        Check.sentence("40", "; CAST: one is no row", () -> {
            dueCopy(4, 0, 1, 0, 1, -12);
            dueCopy(1, 0, 4, 0, 1, -12);
            dueCopy(4, 0, 4, 0, 1, -12);
            dueCopy(4, 0, 4, 0, 0, -12);
        });
        Check.sentence("40", ", or they are of two sorts", () -> {
            dueCopy(0, 0, 1, 0, 1, -12);
            dueCopy(1, 0, 0, 0, 1, -12);
            dueCopy(1, 0, 0, 0, 0, -12);
            for (int one = 1; one <= 4; one++) {
                for (int other = 1; other <= 4; other++) {
                    CordCart x = new CordCart();
                    x.tape(0, one, 2);
                    x.tape(1, other, 2);
                    Check.due("sorts " + one + " and " + other, x.copy(0, 0, 1, 0, 2), one == other ? 2 : -12);
                }
            }
        });
    }

    private static void copyPlaces() {
        Check.sentence("40", "; PLACE: n, i or j is below 0", () -> {
            int least = Integer.MIN_VALUE;
            int[][] places = {{0, 0, -1}, {-1, 0, 1}, {0, -1, 1}, {-1, 0, 0}, {0, -1, 0}, {0, 0, least}, {least, 0, 1}, {0, least, 1}};
            for (int[] p : places) {
                dueCopy(1, p[0], 2, p[1], p[2], -13);
                dueCopy(1, p[0], 1, p[1], p[2], -13);
            }
        });
        Check.sentence("40", ", or a row has not so many.", () -> {
            int most = Integer.MAX_VALUE;
            // 3 elements on TAPE 1, 2 on TAPE 2.
            int[][] places = {{0, 0, 3}, {1, 0, 3}, {2, 0, 2}, {3, 0, 1}, {4, 0, 0}, {0, 1, 2}, {0, 2, 1}, {0, 3, 0},
                {most, 0, 1}, {0, most, 1}, {0, 0, most}, {1, 1, most}, {most, most, most}};
            for (int[] p : places) {
                dueCopy(1, p[0], 2, p[1], p[2], -13);
            }
            dueCopy(3, 0, 1, 0, 1, -13);
            dueCopy(1, 0, 3, 0, 1, -13);
        });
        Check.sentence("40", ", or a row has not so many.", () -> {
            CordCart x = new CordCart();
            rows(x);
            Check.due("none of them, behind the last of both", x.copy(1, 3, 2, 2, 0), 0);
            Check.due("none of a row without places", x.copy(3, 0, 3, 0, 0), 0);
            Check.due("just so many", x.copy(1, 1, 2, 0, 2), 2);
            dueRow("just so many", x, 2, 5, 6);
            Check.due("just so many on the other", x.copy(2, 0, 1, 1, 2), 2);
        });
    }

    private static void copyOrder() {
        Check.sentence("VI", "Of several refusals the one that is named first in a method's words is answered.", () -> {
            CordCart x = new CordCart();
            rows(x);
            Check.due("nothing, and no such TAPE", x.copy(5, 0, 6, 0, -1), -1);
            Check.due("no such TAPE, and nothing", x.copy(-1, 0, 5, 0, -1), -1);
            Check.due("a cart, and nothing", x.copy(4, 0, 5, 0, -1), -11);
            Check.due("nothing, and a cart", x.copy(5, 0, 4, 0, -1), -11);
            Check.due("nothing, and no such place", x.copy(5, -1, 1, 0, 1), -11);
            Check.due("a cart, and no such place", x.copy(4, -1, 1, 0, 1), -12);
            Check.due("two sorts, and no such place", x.copy(0, 0, 1, 9, 1), -12);
            Check.due("no such place alone", x.copy(1, 0, 1, 9, 1), -13);
            Check.due("the host's refusals", x.count(6), 6);
        });
    }

    private static void count() {
        String first = "0 SEGMENTS in all, 1 PEGS, 2 BLOCKED cells, 3 parts of the WISH, 4 SPOTS, 5 UNKNOWN SEGMENTS,";
        Check.sentence("41", first, () -> {
            CordCart x = new CordCart();
            Tell.gaps(x);
            int[] due = {10, 2, 2, 3, 2, 2, 0};
            for (int what = 0; what <= 6; what++) {
                Check.due("count(" + what + ")", x.count(what), due[what]);
            }
            x.unwind(1);
            x.peg(2, 0);
            x.block(9, 9);
            x.wishless();
            x.spotless();
            x.fill(0);
            int[] dueThen = {7, 1, 1, 0, 0, 0, 0};
            for (int what = 0; what <= 6; what++) {
                Check.due("count(" + what + ") then", x.count(what), dueThen[what]);
            }
        });
        Check.sentence("41", "6 refusals of the host's (-11 to -15) since begin().", () -> {
            CordCart x = new CordCart();
            int refused = 0;
            for (int round = 0; round < 3; round++) {
                x.clear(0);
                Check.due("NOTHING", x.sand(0, 1), -11);
                Check.due("NOTHING", x.back(0), -11);
                Check.due("NOTHING", x.toss(0), -11);
                Check.due("NOTHING", x.put(0, 0, 1), -11);
                Check.due("NOTHING", x.copy(0, 0, 0, 0, 1), -11);
                Check.due("SIZE", x.tape(0, 1, -1), -14);
                refused += 6;
                Check.due("count(6)", x.count(6), refused);
                x.keep(0);
                Check.due("CAST", x.sand(0, 1), -12);
                Check.due("CAST", x.put(0, 0, 1), -12);
                Check.due("CAST", x.copy(0, 0, 0, 0, 1), -12);
                Check.due("THROWN", x.toss(0), -15);
                refused += 4;
                x.tape(0, 1, 1);
                Check.due("PLACE", x.sand(0, 2), -13);
                Check.due("PLACE", x.put(0, 1, 1), -13);
                Check.due("PLACE", x.copy(0, 0, 0, 0, 2), -13);
                Check.due("CAST", x.back(0), -12);
                Check.due("CAST", x.toss(0), -12);
                refused += 5;
                Check.due("count(6)", x.count(6), refused);
            }
            x.begin();
            Check.due("count(6) behind begin()", x.count(6), 0);
            x.put(1, 0, 1);
            Check.due("count(6) of one since", x.count(6), 1);
        });
        Check.sentence("41", "(-11 to -15)", () -> {
            CordCart x = new CordCart();
            x.sand(9, 1);
            Tell.sand(x, 10);
            x.tape(9, 1, -1);
            x.put(9, 0, 1);
            x.copy(9, 0, 0, 0, 1);
            x.wind(0, 9, 9, 9);
            x.wind(0, Tell.GAP, 9, 0);
            x.show();
            x.start(0, 0, 1);
            x.make();
            Check.due("at() of no TAPE", () -> x.at(9, 0), Check.ARGUMENT);
            Check.due("at() of no row", () -> x.at(1, 0), Check.STATE);
            Check.due("other refusals aren't the host's", x.count(6), 0);
        });
        Check.sentence("41", "NONE for another what.", () -> {
            for (int what : Check.outside(0, 6)) {
                Twins.due("count(" + what + ")", Tell::much, x -> x.count(what), -1);
            }
        });
    }
}
