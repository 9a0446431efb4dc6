/** Promises 23 to 31: spots, and the fillings, slips and pairs of slips that agree with them. */
public final class FindsTest {
    private static final int FORTH = 0, BACK = 1, SLACK = 2, GAP = 3;

    public static void main(String[] args) {
        spot();
        spotless();
        miss();
        firstRuns();
        fillings();
        fillingsOfMany();
        filling();
        fill();
        fillOfMany();
        slips();
        slip();
        pair();
        pairsByNumber();
        Check.done("FindsTest");
    }

    private static void windBoth(CordCart x, int kind, int length) {
        x.wind(0, kind, length, 0);
        x.wind(1, kind, length, 0);
    }

    private static void spot() {
        CordCart x = new CordCart();
        int[][] wrong = {{0, 1, 1}, {4001, 1, 1}, {1, -1, 1}, {1, 32, 1}, {1, 1, -1}, {1, 1, 32}, {-1, 0, 0}};
        for (int[] s : wrong) {
            Check.due("spot " + s[0] + " " + s[1] + " " + s[2], x.spot(s[0], s[1], s[2]), -1);
        }
        Check.due("count(4)", x.count(4), 0);
        for (int i = 1; i <= 12; i++) {
            Check.due("spot " + i, x.spot(i % 2 == 0 ? 4000 : 1, 31, 0), i);
        }
        Check.due("a 13th", x.spot(1, 1, 1), -2);
        Check.due("NONE is ahead of FULL", x.spot(0, 1, 1), -1);
        Check.due("count(4) of 12", x.count(4), 12);
    }

    private static void spotless() {
        CordCart x = new CordCart();
        Check.due("spotless() of none", x.spotless(), 0);
        x.spot(1, 9, 9);
        x.spot(1, 9, 9);
        Check.due("two alike", x.miss(), 2);
        Check.due("spotless()", x.spotless(), 2);
        Check.due("count(4)", x.count(4), 0);
        Check.due("none is missed", x.miss(), 0);
    }

    private static void miss() {
        CordCart x = new CordCart();
        x.start(20, 7, 8);
        windBoth(x, FORTH, 15);
        int[] units = {9, 3, 12, 1, 7, 3, 15, 2, 14, 5};
        for (int i = 0; i < units.length; i++) {
            x.spot(units[i], 20 - units[i], 7);
            Check.due("told in no order: " + i, x.miss(), 0);
        }
        x.begin();
        windBoth(x, FORTH, 5);
        x.wind(2, SLACK, 9, 0);
        // Told in no order.
        x.spot(4, 4, 0);
        x.spot(1, 1, 0);
        x.spot(4000, 5, 0);
        x.spot(3, 3, 0);
        x.spot(9, 5, 0);
        Check.due("none is missed", x.miss(), 0);
        x.spot(3, 2, 0);
        x.spot(3, 3, 1);
        x.spot(2, 2, 0);
        Check.due("two are missed", x.miss(), 2);
        x.fall(3);
        // The run ends in cell 3.
        Check.due("FALL is the end", x.miss(), 2 + 3);
        x.fall(2000);
        x.start(0, 1, 0);
        Check.due("from another start", x.miss(), 7);
        x.start(0, 0, 0);
        x.wind(2, GAP, 1, 0);
        Check.due("not whole", x.miss(), -3);
        x.begin();
        Check.due("bare", x.miss(), 0);
        x.start(3, 3, 8);
        windBoth(x, FORTH, 4);
        x.spot(4, 0, 3);
        // In cell -1: beyond, and not cell 0.
        Check.due("beyond the floor", x.miss(), 1);
        x.block(2, 3);
        x.spot(1, 2, 3);
        Check.due("a blocked cell is a cell", x.miss(), 1);
        x.unwind(0);
        x.wind(0, FORTH, 1, 1);
        x.wind(0, FORTH, 3, 0);
        x.tape(0, 1, 1);
        x.put(0, 0, 9);
        x.sand(0, 1);
        x.hold(1);
        Check.due("without slips", x.miss(), 1);
    }

    /** Each find is the first call that runs the cart. */
    private static void firstRuns() {
        for (int find = 0; find < 6; find++) {
            CordCart x = new CordCart();
            x.start(9, 9, 0);
            windBoth(x, BACK, 2);
            windBoth(x, SLACK, 2);
            windBoth(x, SLACK, 2);
            x.spot(6, 7, 9);
            switch (find) {
                case 0: Check.due("fillings() at first", x.fillings(), 1); break;
                case 1: Check.due("filling(0) at first", x.filling(0), 0); break;
                case 2: Check.due("slips() at first", x.slips(), 4); break;
                case 3: Check.due("slip(3) at first", x.slip(3), 101); break;
                case 4: Check.due("pair() at first", x.pair(), 1); break;
                default: Check.due("miss() at first", x.miss(), 0); break;
            }
        }
    }

    private static void fillings() {
        CordCart x = new CordCart();
        Check.due("no gaps, no spots", x.fillings(), 1);
        x.spot(1, 1, 0);
        Check.due("no gaps, a spot that is missed", x.fillings(), 0);
        windBoth(x, GAP, 3);
        windBoth(x, FORTH, 2);
        // FORTH both, or one of them and the other SLACK: a half cell is enough.
        Check.due("by the first unit", x.fillings(), 3);
        x.spotless();
        Check.due("all", x.fillings(), 9);
        x.spot(3, 0, 0);
        // SLACK both, or one FORTH and the other BACK.
        Check.due("in the first cell still", x.fillings(), 3);
        x.spot(5, 2, 0);
        Check.due("and two further", x.fillings(), 1);
        Check.due("which one", x.filling(0), 2 + 3 * 2);
        x.wind(2, GAP, 9, 0);
        Check.due("the drum is no matter", x.fillings(), 3);
        x.fall(0);
        Check.due("without fall none goes on", x.fillings(), 0);
        x.spotless();
        x.spot(4000, 0, 0);
        Check.due("without fall all stay", x.fillings(), 27);
        Check.due("nothing is filled", x.count(5), 3);
    }

    private static void fillingsOfMany() {
        CordCart x = new CordCart();
        for (int i = 0; i < 6; i++) {
            x.wind(i % 3, GAP, 1, 1);
        }
        Check.due("six gaps", x.fillings(), 729);
        Check.due("the last one", x.filling(728), 728);
        Check.due("none behind it", x.filling(729), -1);
        x.wind(0, GAP, 1, 0);
        Check.due("seven gaps", x.fillings(), -6);
        Check.due("seven gaps, one of them", x.filling(0), -6);
        Check.due("SPENT is ahead of NONE", x.filling(Integer.MAX_VALUE), -6);
        Check.due("but for those below", x.filling(-1), -1);
        Check.due("nothing is filled", x.count(5), 7);
    }

    private static void filling() {
        CordCart x = new CordCart();
        x.start(5, 5, 0);
        x.wind(0, FORTH, 1, 0);
        x.wind(0, GAP, 2, 0);
        x.wind(1, GAP, 1, 0);
        x.wind(1, FORTH, 2, 0);
        x.wind(2, GAP, 3, 0);
        x.spot(1, 6, 5);
        x.spot(3, 8, 5);
        // The left gap is FORTH, the right one FORTH or SLACK (a half cell less), the drum's any.
        int[] numbers = {0, 6, 9, 15, 18, 24};
        Check.due("fillings()", x.fillings(), 6);
        for (int i = 0; i < 6; i++) {
            Check.due("by number", x.filling(i), numbers[i]);
        }
        Check.due("no seventh", x.filling(6), -1);
        Check.due("none below", x.filling(-1), -1);
        Check.due("none far below", x.filling(Integer.MIN_VALUE), -1);
        x.spotless();
        x.spot(3, 6, 5);
        int due = 0;
        for (int number = 0; number < 27; number++) {
            x.keep(0);
            x.fill(number);
            boolean agrees = x.miss() == 0;
            x.back(0);
            if (agrees) {
                Check.due("as filled and missed: " + number, x.filling(due), number);
                due++;
            }
        }
        Check.due("as many as that", x.fillings(), due);
    }

    private static void fill() {
        CordCart x = new CordCart();
        Check.due("fill(0) without gaps", x.fill(0), 0);
        Check.due("fill(1) without gaps", x.fill(1), -1);
        x.wind(2, GAP, 9, 1);
        x.wind(1, GAP, 8, 0);
        x.wind(1, BACK, 7, 0);
        x.wind(1, GAP, 6, 0);
        x.wind(0, GAP, 5, 0);
        x.keep(0);
        Check.due("fill(-1)", x.fill(-1), -1);
        Check.due("fill(81)", x.fill(81), -1);
        Check.due("fill(MAX)", x.fill(Integer.MAX_VALUE), -1);
        Check.due("nothing is filled", x.count(5), 4);
        Check.due("fill(80)", x.fill(80), 4);
        Check.due("all slack", x.segment(0, 0, 0) + x.segment(1, 0, 0) + x.segment(1, 2, 0) + x.segment(2, 0, 0), 8);
        Check.due("the others stay", x.segment(1, 1, 0), BACK);
        x.back(0);
        // By axle, then segment: 1 + 3 * 2 + 9 * 0 + 27 * 1.
        Check.due("fill(34)", x.fill(34), 4);
        Check.due("the first", x.segment(0, 0, 0), BACK);
        Check.due("the second", x.segment(1, 0, 0), SLACK);
        Check.due("the third", x.segment(1, 2, 0), FORTH);
        Check.due("the fourth", x.segment(2, 0, 0), BACK);
        Check.due("worn as before", x.segment(2, 0, 2), 1);
        Check.due("length as before", x.segment(2, 0, 1), 9);
        Check.due("whole", x.count(5), 0);
        Check.due("filled already", x.fill(34), -1);
    }

    private static void fillOfMany() {
        CordCart x = new CordCart();
        for (int i = 0; i < 7; i++) {
            x.wind(0, GAP, 1, 0);
        }
        Check.due("a number of seven gaps", x.fill(0), -6);
        Check.due("the last number of seven gaps", x.fill(2186), -6);
        Check.due("NONE is ahead of SPENT", x.fill(2187), -1);
        Check.due("NONE is ahead of SPENT below", x.fill(-1), -1);
        for (int i = 0; i < 33; i++) {
            x.wind(0, GAP, 1, 0);
            x.wind(1, GAP, 1, 0);
        }
        Check.due("any number of many gaps", x.fill(Integer.MAX_VALUE), -6);
        Check.due("nothing is filled", x.count(5), 73);
        x.unwind(0);
        x.unwind(1);
        for (int i = 0; i < 6; i++) {
            x.wind(1, GAP, 1, 0);
        }
        Check.due("fill(729) of six gaps", x.fill(729), -1);
        Check.due("fill(728) of six gaps", x.fill(728), 6);
    }

    private static void slips() {
        CordCart x = new CordCart();
        Check.due("bare", x.slips(), 0);
        windBoth(x, FORTH, 2);
        Check.due("none with one behind it", x.slips(), 0);
        windBoth(x, FORTH, 2);
        x.wind(2, FORTH, 1, 0);
        x.wind(2, FORTH, 1, 0);
        Check.due("three, no spots", x.slips(), 3);
        x.spot(2, 2, 0);
        x.spot(4, 4, 0);
        Check.due("only the drum's", x.slips(), 1);
        x.spotless();
        x.spot(2, 2, 0);
        Check.due("ahead of them", x.slips(), 3);
        x.spot(4, 3, 0);
        // One wheel's slack: a unit's half steps, twice.
        Check.due("one wheel's", x.slips(), 2);
        x.spotless();
        x.spot(9, 2, 0);
        Check.due("none so near", x.slips(), 0);
        x.fall(2);
        Check.due("up to FALL", x.slips(), 3);
        x.wind(2, GAP, 1, 0);
        Check.due("not whole", x.slips(), -3);
    }

    private static void slip() {
        CordCart x = new CordCart();
        for (int i = 0; i < 3; i++) {
            windBoth(x, FORTH, 1);
            x.wind(2, FORTH, 1, 0);
        }
        int[] all = {0, 1, 100, 101, 200, 201};
        for (int i = 0; i < all.length; i++) {
            Check.due("slip(" + i + ")", x.slip(i), all[i]);
        }
        Check.due("no seventh", x.slip(6), -1);
        Check.due("none below", x.slip(-1), -1);
        x.spot(2, 2, 0);
        Check.due("a half cell less is in it still", x.slips(), 6);
        x.start(0, 0, 4);
        Check.due("from another direction it isn't", x.slips(), 0);
        x.spotless();
        x.spot(3, 0, 3);
        x.spot(2, 0, 2);
        x.hard(1);
        x.wind(0, SLACK, 1, 0);
        x.wind(0, FORTH, 1, 0);
        x.wind(1, FORTH, 1, 0);
        x.wind(1, BACK, 1, 0);
        dueByHand(x);
        x.wind(0, GAP, 1, 0);
        Check.due("not whole", x.slip(0), -3);
        Check.due("UNKNOWN is ahead of NONE", x.slip(Integer.MAX_VALUE), -3);
        Check.due("but for those below", x.slip(-1), -1);
    }

    /** A SLIP is the segment behind given as slack, so cords wound so must agree likewise. */
    private static void dueByHand(CordCart x) {
        x.keep(4);
        int found = 0;
        for (int axle = 0; axle < 3; axle++) {
            x.back(4);
            int segments = x.unwind(axle);
            for (int slip = 0; slip + 1 < segments; slip++) {
                x.back(4);
                CordCart other = new CordCart();
                other.start(0, 0, 4);
                other.hard(1);
                for (int a = 0; a < 3; a++) {
                    for (int i = 0; x.segment(a, i, 0) >= 0; i++) {
                        other.wind(a, a == axle && i == slip + 1 ? SLACK : x.segment(a, i, 0), x.segment(a, i, 1), 0);
                    }
                }
                other.spot(3, 0, 3);
                other.spot(2, 0, 2);
                if (other.miss() == 0) {
                    Check.due("by hand", x.slip(found), 100 * axle + slip);
                    found++;
                }
            }
        }
        x.back(4);
        Check.due("by hand, in all", x.slips(), found);
    }

    private static void pair() {
        CordCart x = new CordCart();
        Check.due("bare", x.pair(), -1);
        windBoth(x, FORTH, 2);
        windBoth(x, FORTH, 2);
        x.spot(4, 4, 0);
        Check.due("both away from it", x.pair(), -1);
        x.spotless();
        x.spot(4, 2, 0);
        Check.due("both wheels slip", x.pair(), 1);
        x.wind(2, FORTH, 1, 0);
        x.wind(2, FORTH, 1, 0);
        x.wind(2, FORTH, 1, 0);
        Check.due("still", x.pair(), 1);
        x.spotless();
        x.spot(4, 4, 0);
        Check.due("the drum's two", x.pair(), 2003);
        x.spotless();
        Check.due("any two", x.pair(), 1);
        x.begin();
        windBoth(x, FORTH, 1);
        windBoth(x, FORTH, 3);
        windBoth(x, FORTH, 3);
        x.wind(0, FORTH, 3, 0);
        x.unwind(1);
        x.wind(1, FORTH, 1, 0);
        x.hard(8);
        x.fall(7);
        // The left wheel slips twice on: from unit 1 on all is slack.
        x.spot(7, 1, 0);
        Check.due("slips into a segment, and at its end", x.pair(), 1);
        x.wind(2, GAP, 1, 0);
        Check.due("not whole", x.pair(), -3);
    }

    private static void pairsByNumber() {
        CordCart x = new CordCart();
        for (int i = 0; i < 40; i++) {
            for (int axle = 0; axle < 3; axle++) {
                x.wind(axle, FORTH, 1, 0);
            }
        }
        Check.due("all slips", x.slips(), 117);
        Check.due("the last slip", x.slip(116), 238);
        x.start(0, 9, 0);
        x.spot(31, 31, 9);
        x.spot(30, 30, 9);
        x.fall(31);
        Check.due("the first behind FALL", x.pair(), firstPairByHand(x));
        x.fall(2000);
        x.hard(8);
        x.start(0, 0, 0);
        x.spotless();
        for (int unit = 1; unit <= 12; unit++) {
            x.spot(unit, unit, 0);
        }
        Check.due("behind the first twelve", x.pair(), firstPairByHand(x));
        x.spotless();
        x.spot(31, 31, 0);
        x.spot(30, 30, 0);
        Check.due("behind the thirtieth", x.pair(), firstPairByHand(x));
        for (int unit = 1; unit <= 9; unit++) {
            x.spot(unit, 30, 30);
        }
        Check.due("none", x.pair(), -1);
    }

    private static int firstPairByHand(CordCart x) {
        for (int first = 0; first < 117; first++) {
            for (int second = first + 1; second < 117; second++) {
                if (agreesWith(x, first, second)) {
                    return 1000 * first + second;
                }
            }
        }
        return -1;
    }

    private static boolean agreesWith(CordCart x, int first, int second) {
        x.keep(5);
        for (int axle = 0; axle < 3; axle++) {
            x.unwind(axle);
            for (int i = 0; i < 40; i++) {
                int number = i > 0 ? axle * 39 + i - 1 : -1;
                x.wind(axle, number == first || number == second ? SLACK : FORTH, 1, 0);
            }
        }
        boolean agrees = x.miss() == 0;
        x.back(5);
        return agrees;
    }
}
