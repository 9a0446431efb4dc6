/** What term I says of the falling WEIGHT, and promise 18. */
final class RunSentences {
    private static final int[] KINDS = {Tell.FORTH, Tell.BACK, Tell.SLACK};
    private static final int[] TURNS = {1, -1, 0};

    private RunSentences() {
    }

    static void hold() {
        axles();
        directions();
        cells();
        segments();
        growing();
        turningLeft();
        turningRight();
        turningOnTheSpot();
        where();
        whereEnds();
        whereRefusals();
    }

    private static void dueWhere(String when, CordCart x, int unit, int... pose) {
        for (int what = 0; what < pose.length; what++) {
            Check.due(when + ": where(" + unit + ", " + what + ")", x.where(unit, what), pose[what]);
        }
    }

    private static void axles() {
        Check.sentence("I", "A CART has AXLES 0 (left wheel), 1 (right wheel), 2 (drum).", () -> {
            int[][] due = {{3500, 500, 0, -6, 0}, {3500, 500, 0, 6, 0}, {500, 500, 0, 0, 6}};
            for (int axle = 0; axle < 3; axle++) {
                CordCart x = new CordCart();
                x.hard(8);
                Tell.cord(x, axle, Tell.FORTH, 6);
                dueWhere("AXLE " + axle, x, 6, due[axle]);
            }
        });
    }

    private static void directions() {
        String rule = "DIRECTIONS 0 .. 15 with half steps (in thousandths of a cell): 0 (500, 0), 1 (462, 191), 2 (354, 354),"
            + " 3 (191, 462); each other one is the one 4 below it, turned: (a, b) becomes (-b, a).";
        Check.sentence("I", rule, () -> {
            int[][] half = new int[16][];
            half[0] = new int[] {500, 0};
            half[1] = new int[] {462, 191};
            half[2] = new int[] {354, 354};
            half[3] = new int[] {191, 462};
            for (int direction = 4; direction < 16; direction++) {
                half[direction] = new int[] {-half[direction - 4][1], half[direction - 4][0]};
            }
            for (int direction = 0; direction < 16; direction++) {
                CordCart x = new CordCart();
                Tell.wheels(x, Tell.FORTH, 1, Tell.BACK, 3);
                x.start(10, 20, direction);
                int ahead = 2 * half[direction][0];
                int aside = 2 * half[direction][1];
                dueWhere("ahead", x, 1, 10500 + ahead, 20500 + aside, direction, 0, 0);
                dueWhere("and back", x, 2, 10500, 20500, direction, 0, 0);
                dueWhere("and astern", x, 4, 10500 - 2 * ahead, 20500 - 2 * aside, direction, 0, 0);
            }
        });
        Check.sentence("I", "POSE: place X, Y (thousandths), DIRECTION, PHASE; the drum's STEP;", () -> {
            CordCart x = new CordCart();
            x.start(4, 5, 7);
            Tell.cord(x, Tell.RIGHT, Tell.FORTH, 3);
            Tell.cord(x, Tell.DRUM, Tell.BACK, 2);
            dueWhere("behind 3", x, 3, 4500 - 3 * 462, 5500 + 3 * 191, 7, 3, -2);
        });
    }

    /** The cell of an ACT, done at each unit. */
    private static void dueCells(CordCart x, int what, int... cells) {
        for (int i = 0; i < cells.length; i++) {
            int act = i;
            Check.due("cell of unit " + (i + 1), () -> x.acted(act, what), cells[i]);
        }
    }

    private static void cells() {
        String rule = "The CART is in the cell X / 1000, Y / 1000 (each the greatest whole number not above)";
        Check.sentence("I", rule, () -> {
            for (int axis = 0; axis < 2; axis++) {
                CordCart x = new CordCart();
                x.hard(8);
                for (int step = 1; step <= 6; step++) {
                    x.peg(step, 1);
                }
                x.start(0, 0, 8 + 4 * axis);
                // 500, then 0, -500, -1000, -1500, -2000, -2500.
                Tell.cord(x, Tell.LEFT, Tell.FORTH, 6);
                Tell.cord(x, Tell.DRUM, Tell.FORTH, 6);
                x.show();
                dueCells(x, 2 + axis, 0, -1, -1, -2, -2, -3);
                Check.due("where it is", x.pose(axis), -2500);
            }
        });
        Check.sentence("I", rule, () -> {
            CordCart x = new CordCart();
            x.start(0, 0, 1);
            for (int step = 1; step <= 3; step++) {
                x.peg(step, 1);
            }
            Tell.wheels(x, Tell.FORTH, 3);
            Tell.cord(x, Tell.DRUM, Tell.FORTH, 3);
            x.show();
            // X 1424, 2348, 3272; Y 882, 1264, 1646.
            dueCells(x, 2, 1, 2, 3);
            dueCells(x, 3, 0, 1, 1);
        });
        Check.sentence("I", ", which may lie beyond the FLOOR, or be BLOCKED.", () -> {
            CordCart x = new CordCart();
            x.start(30, 0, 0);
            x.block(30, 0);
            x.block(31, 0);
            Tell.wheels(x, Tell.FORTH, 9);
            dueWhere("beyond", x, 9, 39500, 500, 0, 0, 0);
            x.start(1, 0, 8);
            dueWhere("beyond on the other side", x, 9, -7500, 500, 8, 0, 0);
            x.start(1, 1, 12);
            dueWhere("beyond below", x, 9, 1500, -7500, 12, 0, 0);
        });
    }

    private static void segments() {
        Check.sentence("I", "THE WEIGHT falls by units.", () -> {
            CordCart x = new CordCart();
            Tell.wheels(x, Tell.FORTH, 3);
            for (int unit = 0; unit <= 3; unit++) {
                dueWhere("unit by unit", x, unit, 500 + 1000 * unit, 500, 0, 0, 0);
            }
        });
        String rule = "With a unit each AXLE whose cord isn't run out gives a unit of the SEGMENT it is at:"
            + " by FORTH it turns 1, by BACK -1, by SLACK 0";
        Check.sentence("I", rule, () -> {
            CordCart x = new CordCart();
            x.hard(8);
            Tell.cord(x, Tell.LEFT, Tell.FORTH, 2, Tell.BACK, 1, Tell.SLACK, 1, Tell.FORTH, 4);
            Tell.cord(x, Tell.RIGHT, Tell.FORTH, 3);
            Tell.cord(x, Tell.DRUM, Tell.BACK, 9);
            // l + r of the units: 2 2 0 0 1 1 1 1, then the drum alone.
            dueWhere("two ahead", x, 2, 2500, 500, 0, 0, -2);
            dueWhere("on the spot", x, 3, 2500, 500, 0, 2, -3);
            dueWhere("slack", x, 4, 2500, 500, 0, 2, -4);
            dueWhere("the left one alone", x, 8, 4500, 500, 0, -2, -8);
            dueWhere("the drum alone", x, 9, 4500, 500, 0, -2, -9);
        });
        Check.sentence("I", "; a SEGMENT whose length is given is left for the next one.", () -> {
            CordCart x = new CordCart();
            Tell.cord(x, Tell.DRUM, Tell.FORTH, 1, Tell.BACK, 200, Tell.FORTH, 200, Tell.SLACK, 1, Tell.BACK, 1);
            int[][] steps = {{1, 1}, {2, 0}, {201, -199}, {202, -198}, {401, 1}, {402, 1}, {403, 0}, {404, 0}};
            for (int[] step : steps) {
                Check.due("STEP behind unit " + step[0], x.where(step[0], 4), step[1]);
            }
        });
        Check.sentence("I", "; a SEGMENT whose length is given is left for the next one.", () -> {
            for (int left : KINDS) {
                for (int right : KINDS) {
                    for (int d = 1; d <= 8; d++) {
                        dueLikeOneSegment(left, right, d);
                    }
                }
            }
        });
        Check.sentence("I", "An AXLE that is run out turns 0.", () -> {
            for (int axle = 0; axle < 3; axle++) {
                CordCart x = new CordCart();
                x.hard(8);
                for (int other = 0; other < 3; other++) {
                    Tell.cord(x, other, Tell.FORTH, other == axle ? 2 : 5);
                }
                int[] due = {5500 - (axle < 2 ? 1500 : 0), 500, 0, axle == 0 ? 3 : axle == 1 ? -3 : 0, axle == 2 ? 2 : 5};
                dueWhere("AXLE " + axle + " is run out", x, 5, due);
                dueWhere("all are run out", x, 6, due);
                dueWhere("long run out", x, 2000, due);
            }
        });
    }

    /** SEGMENTS of one KIND that follow one another do what one long one does, behind each unit. */
    private static void dueLikeOneSegment(int left, int right, int d) {
        CordCart one = new CordCart();
        CordCart many = new CordCart();
        one.hard(d);
        many.hard(d);
        one.wind(Tell.LEFT, left, 200, 0);
        one.wind(Tell.RIGHT, right, 200, 0);
        Tell.full(many, Tell.LEFT, left, 3, 0);
        Tell.full(many, Tell.RIGHT, right, 5, 0);
        for (int unit = 1; unit <= 80; unit++) {
            for (int what = 0; what <= 3; what++) {
                String call = "KINDS " + left + " and " + right + ", D " + d + ": where(" + unit + ", " + what + ")";
                Check.due(call, many.where(unit, what), one.where(unit, what));
            }
        }
    }

    private static void growing() {
        String rule = "Then, with l, r, s the three turns: X and Y grow by (l + r) times the half step of the DIRECTION;"
            + " PHASE grows by r - l;";
        Check.sentence("I", rule, () -> {
            CordCart x = new CordCart();
            x.hard(8);
            x.start(5, 5, 5);
            for (int left = 0; left < 3; left++) {
                for (int right = 0; right < 3; right++) {
                    Tell.cord(x, Tell.LEFT, KINDS[left], 1);
                    Tell.cord(x, Tell.RIGHT, KINDS[right], 1);
                    int go = TURNS[left] + TURNS[right];
                    dueWhere("turns " + TURNS[left] + " and " + TURNS[right], x, 1,
                        5500 - 191 * go, 5500 + 462 * go, 5, TURNS[right] - TURNS[left], 0);
                }
            }
        });
        Check.sentence("I", "STEP grows by s", () -> {
            CordCart x = new CordCart();
            Tell.full(x, Tell.DRUM, Tell.FORTH, 200, 0);
            x.fall(4000);
            Check.due("as far as FALL", x.where(4000, 4), 4000);
            Tell.cord(x, Tell.DRUM, Tell.BACK, 200, Tell.BACK, 200, Tell.BACK, 200, Tell.SLACK, 3);
            Check.due("beyond all PEGS", x.where(603, 4), -600);
        });
    }

    private static void turningLeft() {
        String rule = "if it is 2 D or more then, it falls by 2 D and the DIRECTION grows by 1 (15 to 0)";
        Check.sentence("I", rule, () -> {
            for (int d = 1; d <= 8; d++) {
                CordCart x = new CordCart();
                x.hard(d);
                x.start(10, 10, 15);
                Tell.cord(x, Tell.RIGHT, Tell.FORTH, 200);
                int full = 2 * d;
                // The unit that comes to 2 D still goes by the DIRECTION of before.
                dueWhere("just below 2 D", x, full - 1, 10500 + 462 * (full - 1), 10500 - 191 * (full - 1), 15, full - 1, 0);
                dueWhere("just 2 D", x, full, 10500 + 462 * full, 10500 - 191 * full, 0, 0, 0);
                dueWhere("one further", x, full + 1, 11000 + 462 * full, 10500 - 191 * full, 0, 1, 0);
                Check.due("once more ahead of 4 D", x.where(2 * full - 1, 2), 0);
                Check.due("once more", x.where(2 * full, 2), 1);
                Check.due("time and again", x.where(200, 2), (15 + 200 / full) % 16);
            }
        });
        Check.sentence("I", rule, () -> {
            for (int d = 1; d <= 8; d++) {
                CordCart x = new CordCart();
                x.hard(d);
                x.start(10, 10, 0);
                // One unit makes the PHASE odd, so by twos it comes to 2 D + 1, and 1 is left.
                Tell.cord(x, Tell.LEFT, Tell.SLACK, 1, Tell.BACK, 199);
                Tell.cord(x, Tell.RIGHT, Tell.FORTH, 200);
                dueWhere("2 D less 1", x, d, 11000, 10500, 0, 2 * d - 1, 0);
                dueWhere("2 D and 1", x, d + 1, 11000, 10500, 1, 1, 0);
                dueWhere("next 2 D less 1", x, 2 * d, 11000, 10500, 1, 2 * d - 1, 0);
                dueWhere("next 2 D and 1", x, 2 * d + 1, 11000, 10500, 2, 1, 0);
                dueWhere("all round", x, 16 * d + 1, 11000, 10500, 0, 1, 0);
            }
        });
        Check.sentence("I", rule, () -> {
            CordCart x = new CordCart();
            Tell.cord(x, Tell.RIGHT, Tell.BACK, 3, Tell.FORTH, 7);
            Tell.cord(x, Tell.LEFT, Tell.SLACK, 10);
            Check.due("from below 0", x.where(3, 3), -3);
            Check.due("by 6 to 3", x.where(9, 3), 3);
            Check.due("by 7 to 2 D", x.where(10, 2), 1);
            Check.due("and 0", x.where(10, 3), 0);
        });
    }

    private static void turningRight() {
        String rule = "; if it is -2 D or less, it grows by 2 D and the DIRECTION falls by 1 (0 to 15);";
        Check.sentence("I", rule, () -> {
            for (int d = 1; d <= 8; d++) {
                CordCart x = new CordCart();
                x.hard(d);
                Tell.cord(x, Tell.LEFT, Tell.FORTH, 200);
                int full = 2 * d;
                dueWhere("just above -2 D", x, full - 1, 500 + 500 * (full - 1), 500, 0, 1 - full, 0);
                dueWhere("just -2 D", x, full, 500 + 500 * full, 500, 15, 0, 0);
                dueWhere("one further", x, full + 1, 500 + 500 * full + 462, 500 - 191, 15, -1, 0);
                Check.due("once more ahead of -4 D", x.where(2 * full - 1, 2), 15);
                Check.due("once more", x.where(2 * full, 2), 14);
            }
        });
        Check.sentence("I", rule, () -> {
            for (int d = 1; d <= 8; d++) {
                CordCart x = new CordCart();
                x.hard(d);
                Tell.cord(x, Tell.RIGHT, Tell.SLACK, 1, Tell.BACK, 199);
                Tell.cord(x, Tell.LEFT, Tell.FORTH, 200);
                dueWhere("1 less 2 D", x, d, 1000, 500, 0, 1 - 2 * d, 0);
                dueWhere("-1 less 2 D", x, d + 1, 1000, 500, 15, -1, 0);
                dueWhere("next -1 less 2 D", x, 2 * d + 1, 1000, 500, 14, -1, 0);
                dueWhere("all round", x, 16 * d + 1, 1000, 500, 0, -1, 0);
            }
        });
        Check.sentence("I", rule, () -> {
            CordCart x = new CordCart();
            Tell.cord(x, Tell.LEFT, Tell.BACK, 3, Tell.FORTH, 7);
            Tell.cord(x, Tell.RIGHT, Tell.SLACK, 10);
            Check.due("from above 0", x.where(3, 3), 3);
            Check.due("by 6 to -3", x.where(9, 3), -3);
            Check.due("by 7 to -2 D", x.where(10, 2), 15);
            Check.due("and 0", x.where(10, 3), 0);
        });
    }

    private static void turningOnTheSpot() {
        Check.sentence("I", "it falls by 2 D and the DIRECTION grows by 1 (15 to 0)", () -> {
            for (int d = 1; d <= 8; d++) {
                CordCart x = new CordCart();
                x.hard(d);
                Tell.cord(x, Tell.LEFT, Tell.BACK, 200);
                Tell.cord(x, Tell.RIGHT, Tell.FORTH, 200);
                for (int unit = 0; unit <= 17 * d; unit++) {
                    Check.due("DIRECTION behind " + unit, x.where(unit, 2), unit / d % 16);
                    Check.due("PHASE behind " + unit, x.where(unit, 3), 2 * (unit % d));
                }
            }
        });
        Check.sentence("I", "it grows by 2 D and the DIRECTION falls by 1 (0 to 15)", () -> {
            for (int d = 1; d <= 8; d++) {
                CordCart x = new CordCart();
                x.hard(d);
                Tell.cord(x, Tell.LEFT, Tell.FORTH, 200);
                Tell.cord(x, Tell.RIGHT, Tell.BACK, 200);
                for (int unit = 0; unit <= 17 * d; unit++) {
                    Check.due("DIRECTION behind " + unit, x.where(unit, 2), (32 - unit / d) % 16);
                    Check.due("PHASE behind " + unit, x.where(unit, 3), -2 * (unit % d));
                }
            }
        });
    }

    private static void where() {
        String rule = "Where the CART is behind a UNIT of a run from the START unit by unit, without TICKS and SLIPS (up to FALL):"
            + " what 0 X, 1 Y, 2 DIRECTION, 3 PHASE, 4 STEP.";
        Check.sentence("18", rule, () -> {
            CordCart x = new CordCart();
            x.start(5, 6, 13);
            x.wind(Tell.LEFT, Tell.BACK, 2, 1);
            x.wind(Tell.LEFT, Tell.FORTH, 5, 1);
            x.wind(Tell.RIGHT, Tell.BACK, 7, 0);
            x.wind(Tell.DRUM, Tell.FORTH, 1, 1);
            x.wind(Tell.DRUM, Tell.FORTH, 6, 0);
            Tell.sand(x, 0, 9);
            x.hold(1);
            dueWhere("the START", x, 0, 5500, 6500, 13, 0, 0);
            dueWhere("astern", x, 2, 5500 - 4 * 191, 6500 + 4 * 462, 13, 0, 2);
            dueWhere("without slips", x, 4, 5500 - 4 * 191, 6500 + 4 * 462, 12, 0, 4);
            dueWhere("without ticks", x, 5, 5500 - 4 * 191, 6500 + 4 * 462, 12, -2, 5);
            dueWhere("and on", x, 7, 5500 - 4 * 191, 6500 + 4 * 462, 11, -2, 7);
            Check.due("no SHOW is kept by it", () -> x.pose(0), Check.STATE);
        });
        Check.sentence("18", "Where the CART is behind a UNIT of a run from the START", () -> {
            CordCart x = new CordCart();
            Tell.wheels(x, Tell.FORTH, 5);
            Check.due("behind the last unit", x.where(5, 0), 5500);
            Check.due("behind an earlier one", x.where(2, 0), 2500);
            x.start(3, 0, 8);
            Check.due("from another START", x.where(2, 0), 1500);
            x.hard(7);
            Tell.cord(x, Tell.LEFT, Tell.BACK, 2);
            Check.due("by other cords", x.where(2, 3), 4);
        });
    }

    private static void whereEnds() {
        Check.sentence("18", "(up to FALL)", () -> {
            CordCart x = new CordCart();
            Tell.full(x, Tell.DRUM, Tell.FORTH, 200, 0);
            int[] falls = {0, 1, 7, 3999, 4000};
            for (int fall : falls) {
                x.fall(fall);
                Check.due("behind FALL " + fall, x.where(fall, 4), fall);
                Check.due("ahead of FALL " + fall, x.where(Math.max(0, fall - 1), 4), Math.max(0, fall - 1));
                Check.due("beyond FALL " + fall, x.where(Math.min(4000, fall + 1), 4), fall);
                Check.due("far beyond FALL " + fall, x.where(4000, 4), fall);
            }
        });
        Check.sentence("18", "(up to FALL)", () -> {
            CordCart x = new CordCart();
            Tell.full(x, Tell.DRUM, Tell.FORTH, 200, 0);
            Check.due("FALL as at first", x.where(2000, 4), 2000);
            Check.due("one beyond", x.where(2001, 4), 2000);
        });
    }

    private static void whereRefusals() {
        Check.sentence("18", "IllegalArgumentException: no such what", () -> {
            for (int what : Check.outside(0, 4)) {
                Twins.due("where(0, " + what + ")", Tell::much, x -> x.where(0, what), Check.ARGUMENT);
            }
        });
        Check.sentence("18", ", UNIT not 0 .. 4000", () -> {
            CordCart y = new CordCart();
            Check.due("where(0, 0)", y.where(0, 0), 500);
            Check.due("where(4000, 0)", y.where(4000, 0), 500);
            for (int unit : Check.outside(0, 4000)) {
                Twins.due("where(" + unit + ", 0)", Tell::much, x -> x.where(unit, 0), Check.ARGUMENT);
            }
        });
        Check.sentence("18", "; IllegalStateException: the cords aren't WHOLE.", () -> {
            Twins.due("where(0, 0) with gaps", Tell::gaps, x -> x.where(0, 0), Check.STATE);
            Twins.due("where(4000, 4) with gaps", Tell::gaps, x -> x.where(4000, 4), Check.STATE);
            for (int axle = 0; axle < 3; axle++) {
                CordCart x = new CordCart();
                x.wind(axle, Tell.FORTH, 200, 0);
                x.wind(axle, Tell.GAP, 1, 0);
                Check.due("a gap behind the unit that is asked for", () -> x.where(1, 0), Check.STATE);
            }
        });
        Check.sentence("VI", "Of several refusals the one that is named first in a method's words is answered.", () -> {
            CordCart x = new CordCart();
            x.wind(0, Tell.GAP, 1, 0);
            Check.due("no such what, and not WHOLE", () -> x.where(0, 5), Check.ARGUMENT);
            Check.due("no such what below, and not WHOLE", () -> x.where(0, -1), Check.ARGUMENT);
            Check.due("no such UNIT, and not WHOLE", () -> x.where(4001, 0), Check.ARGUMENT);
            Check.due("no such UNIT below, and not WHOLE", () -> x.where(-1, 0), Check.ARGUMENT);
        });
    }
}
