/** Term IV, and promises 23 to 31. */
final class FindSentences {
    private FindSentences() {
    }

    static void hold() {
        spot();
        spotless();
        agreeing();
        agreeingUpToTheEnd();
        miss();
        fillingKinds();
        fillings();
        filling();
        fill();
        fillNumbers();
        fillOfMany();
        toldSlips();
        slipOrder();
        slips();
        slip();
        pair();
        pairOrder();
        pairRefusals();
    }

    private static void twelveSpots(CordCart x) {
        for (int i = 1; i <= 12; i++) {
            x.spot(i % 2 == 0 ? 4000 : 1, i, 0);
        }
    }

    private static void spot() {
        Check.sentence("IV", "SPOTS: up to 12 of a UNIT (1 .. 4000) and a cell.", () -> {
            CordCart x = new CordCart();
            int[][] spots = {{1, 0, 0}, {4000, 31, 31}, {1, 31, 0}, {4000, 0, 31}};
            for (int i = 1; i <= 12; i++) {
                int[] s = spots[i % 4];
                Check.due("SPOT " + i, x.spot(s[0], s[1], s[2]), i);
            }
            Check.due("a 13th", x.spot(1, 1, 1), -2);
            Check.due("count(4)", x.count(4), 12);
            Check.due("spot(0, 1, 1)", x.spot(0, 1, 1), -1);
            Check.due("spot(4001, 1, 1)", x.spot(4001, 1, 1), -1);
            Check.due("miss() of all twelve", x.miss(), 9);
        });
        Check.sentence("23", "A SPOT is told: how many there are.", () -> {
            CordCart x = new CordCart();
            x.block(5, 5);
            Check.due("the first", x.spot(7, 3, 3), 1);
            Check.due("of an earlier UNIT", x.spot(6, 3, 3), 2);
            Check.due("the same again", x.spot(7, 3, 3), 3);
            Check.due("another cell at the UNIT", x.spot(7, 4, 3), 4);
            Check.due("a cell that is BLOCKED", x.spot(7, 5, 5), 5);
            Check.due("count(4)", x.count(4), 5);
        });
        Check.sentence("23", "NONE: no such UNIT", () -> {
            for (int unit : Check.outside(1, 4000)) {
                Twins.due("spot(" + unit + ", 4, 4)", Tell::much, x -> x.spot(unit, 4, 4), -1);
            }
        });
        Check.sentence("23", ", cell", () -> {
            for (int beyond : Check.outside(0, 31)) {
                Twins.due("spot(1, " + beyond + ", 4)", Tell::much, x -> x.spot(1, beyond, 4), -1);
                Twins.due("spot(1, 4, " + beyond + ")", Tell::much, x -> x.spot(1, 4, beyond), -1);
            }
        });
        Check.sentence("23", "; FULL: 12.", () -> {
            Twins.due("spot(1, 1, 1) of 12", FindSentences::twelveSpots, x -> x.spot(1, 1, 1), -2);
            Twins.due("spot(1, 1, 0) of 12, told already", FindSentences::twelveSpots, x -> x.spot(1, 1, 0), -2);
        });
        Check.sentence("VI", "Of several refusals the one that is named first in a method's words is answered.", () -> {
            CordCart x = new CordCart();
            twelveSpots(x);
            Check.due("no such UNIT, and 12", x.spot(0, 1, 1), -1);
            Check.due("no such cell, and 12", x.spot(1, 32, 1), -1);
            Check.due("12 alone", x.spot(1, 31, 1), -2);
        });
    }

    private static void spotless() {
        Check.sentence("24", "The SPOTS are taken away: how many there were.", () -> {
            CordCart x = new CordCart();
            Check.due("spotless() of none", x.spotless(), 0);
            x.spot(1, 9, 9);
            Check.due("miss()", x.miss(), 1);
            Check.due("spotless() of one", x.spotless(), 1);
            Check.due("spotless() again", x.spotless(), 0);
            Check.due("count(4)", x.count(4), 0);
            Check.due("miss() of none", x.miss(), 0);
            twelveSpots(x);
            Check.due("spotless() of 12", x.spotless(), 12);
            Check.due("the first anew", x.spot(1, 0, 0), 1);
            Check.due("miss() of it", x.miss(), 0);
        });
    }

    /** Whether a SPOT is agreed with, by miss() and by fillings(). */
    private static void dueAgrees(String when, CordCart x, boolean agrees) {
        Check.due(when + ": miss()", x.miss(), agrees ? 0 : 1);
        Check.due(when + ": fillings()", x.fillings(), agrees ? 1 : 0);
        x.spotless();
    }

    private static void agreeing() {
        Check.sentence("IV", "the CART is in each SPOT's cell behind its UNIT", () -> {
            CordCart x = new CordCart();
            x.start(3, 3, 0);
            Tell.wheels(x, Tell.FORTH, 5, Tell.BACK, 2);
            int[] cells = {4, 5, 6, 7, 8, 7, 6};
            for (int unit = 1; unit <= 7; unit++) {
                for (int cell = 3; cell <= 9; cell++) {
                    x.spot(unit, cell, 3);
                    dueAgrees("UNIT " + unit + ", cell " + cell, x, cell == cells[unit - 1]);
                }
                x.spot(unit, cells[unit - 1], 4);
                dueAgrees("UNIT " + unit + ", another y", x, false);
            }
        });
        Check.sentence("IV", "in each SPOT's cell", () -> {
            CordCart x = new CordCart();
            Tell.cord(x, Tell.LEFT, Tell.FORTH, 1, Tell.GAP, 2);
            Tell.cord(x, Tell.RIGHT, Tell.FORTH, 3);
            x.spot(3, 2, 0);
            Check.due("BACK stays in cell 1, SLACK comes to 2", x.fillings(), 1);
            x.spot(1, 1, 0);
            Check.due("one more that agrees", x.fillings(), 1);
            x.spot(2, 3, 0);
            Check.due("and one that doesn't", x.fillings(), 0);
            x.fill(2);
            Check.due("miss() of it", x.miss(), 1);
        });
        Check.sentence("IV", "it AGREES if, run from the START unit by unit without TICKS and SLIPS", () -> {
            CordCart x = new CordCart();
            Tell.sand(x, 0, 9);
            x.hold(1);
            for (int wheel = 0; wheel < 2; wheel++) {
                x.wind(wheel, Tell.FORTH, 2, 1);
                x.wind(wheel, Tell.FORTH, 2, 1);
                x.wind(wheel, Tell.FORTH, 2, 0);
            }
            x.spot(6, 6, 0);
            dueAgrees("behind all units", x, true);
            x.spot(3, 3, 0);
            dueAgrees("behind the first unit that could slip", x, true);
            x.start(9, 9, 8);
            x.spot(3, 6, 9);
            dueAgrees("from another START", x, true);
            x.show();
            Check.due("the SHOW slips", x.pose(0), 7500);
        });
        Check.sentence("IV", "the CART is in each SPOT's cell", () -> {
            CordCart x = new CordCart();
            x.start(1, 3, 8);
            Tell.wheels(x, Tell.FORTH, 4);
            x.block(0, 3);
            x.spot(1, 0, 3);
            dueAgrees("a cell that is BLOCKED", x, true);
            x.spot(2, 0, 3);
            dueAgrees("just beyond the FLOOR it's in no cell of it", x, false);
            x.spot(3, 1, 3);
            dueAgrees("nor in a mirrored one", x, false);
            x.spot(2, 31, 3);
            dueAgrees("nor in the farthest one", x, false);
        });
    }

    private static void agreeingUpToTheEnd() {
        Check.sentence("IV", "(up to FALL)", () -> {
            CordCart x = new CordCart();
            Tell.wheels(x, Tell.FORTH, 9);
            for (int fall : new int[] {0, 1, 3, 8, 9, 10}) {
                x.fall(fall);
                int end = Math.min(fall, 9);
                x.spot(9, end, 0);
                dueAgrees("UNIT 9 of FALL " + fall, x, true);
                x.spot(4000, end, 0);
                dueAgrees("UNIT 4000 of FALL " + fall, x, true);
                x.spot(9, end + 1, 0);
                dueAgrees("a cell beyond FALL " + fall, x, false);
                x.spot(1, Math.min(1, end), 0);
                dueAgrees("UNIT 1 of FALL " + fall, x, true);
            }
        });
        Check.sentence("IV", "(a UNIT beyond the end: where it ended).", () -> {
            CordCart x = new CordCart();
            x.fall(4000);
            x.spot(1, 0, 0);
            dueAgrees("bare cords end at the START", x, true);
            x.spot(1, 1, 0);
            dueAgrees("bare cords end nowhere else", x, false);
            Tell.wheels(x, Tell.FORTH, 5);
            for (int unit : new int[] {5, 6, 7, 4000}) {
                x.spot(unit, 5, 0);
                dueAgrees("UNIT " + unit + " of 5", x, true);
                x.spot(unit, 6, 0);
                dueAgrees("UNIT " + unit + " of 5, not there", x, false);
            }
            x.spot(4, 5, 0);
            dueAgrees("UNIT 4 of 5", x, false);
            Tell.full(x, Tell.DRUM, Tell.FORTH, 200, 0);
            x.spot(4000, 5, 0);
            dueAgrees("the last UNIT of all", x, true);
        });
    }

    private static void miss() {
        Check.sentence("25", "How many SPOTS a run without SLIPS isn't in.", () -> {
            CordCart x = new CordCart();
            Check.due("no SPOTS", x.miss(), 0);
            x.start(20, 7, 8);
            Tell.wheels(x, Tell.FORTH, 15);
            int[] units = {9, 3, 12, 1, 7, 3, 15, 2, 14, 5, 8, 4000};
            for (int i = 0; i < units.length; i++) {
                x.spot(units[i], 20 - Math.min(15, units[i]), 7);
                Check.due("told in no order: " + i, x.miss(), 0);
            }
            x.start(20, 8, 8);
            Check.due("all twelve", x.miss(), 12);
            x.start(20, 7, 8);
            x.fall(3);
            Check.due("but for those up to FALL", x.miss(), 8);
            x.fall(2000);
            x.spotless();
            x.spot(1, 18, 7);
            x.spot(2, 18, 7);
            x.spot(3, 18, 7);
            x.spot(2, 18, 7);
            Check.due("two of four", x.miss(), 2);
        });
        Check.sentence("25", "a run without SLIPS", () -> {
            CordCart x = new CordCart();
            Tell.sand(x, 9);
            x.hold(1);
            x.wind(0, Tell.FORTH, 1, 1);
            x.wind(0, Tell.FORTH, 3, 0);
            Tell.cord(x, 1, Tell.FORTH, 4);
            x.spot(4, 4, 0);
            Check.due("miss()", x.miss(), 0);
            Twins.due("miss()", Tell::much, CordCart::miss, 1);
        });
        Check.sentence("25", "UNKNOWN: the cords aren't WHOLE.", () -> {
            Twins.due("miss() with gaps", Tell::gaps, CordCart::miss, -3);
            for (int axle = 0; axle < 3; axle++) {
                CordCart x = new CordCart();
                x.wind(axle, Tell.GAP, 1, 0);
                Check.due("miss() without SPOTS, a gap on " + axle, x.miss(), -3);
                x.fill(0);
                Check.due("filled", x.miss(), 0);
            }
        });
    }

    private static void fillingKinds() {
        Check.sentence("IV", "A FILLING gives each UNKNOWN SEGMENT a KIND 0, 1, 2;", () -> {
            for (int number = 0; number < 9; number++) {
                CordCart x = new CordCart();
                x.wind(1, Tell.GAP, 3, 1);
                x.wind(1, Tell.BACK, 4, 0);
                x.wind(1, Tell.GAP, 5, 0);
                Check.due("fill(" + number + ")", x.fill(number), 2);
                Check.due("the first KIND", x.segment(1, 0, 0), number % 3);
                Check.due("the next KIND", x.segment(1, 2, 0), number / 3);
                Check.due("the other stays", x.segment(1, 1, 0), Tell.BACK);
                Check.due("lengths stay", x.segment(1, 0, 1) + x.segment(1, 2, 1), 8);
                Check.due("WORN stays", x.segment(1, 0, 2), 1);
                Check.due("not WORN stays", x.segment(1, 2, 2), 0);
            }
        });
        String rule = "FILLINGS are numbered by their KINDS: the first UNKNOWN (by AXLE, then SEGMENT) weighs 1, the next 3, then 9 ..";
        Check.sentence("IV", rule, () -> {
            int weight = 1;
            for (int gap = 0; gap < 6; gap++) {
                for (int kind = 1; kind <= 2; kind++) {
                    CordCart x = new CordCart();
                    // Wound in another order than that of AXLES.
                    x.wind(2, Tell.GAP, 1, 0);
                    x.wind(1, Tell.GAP, 1, 0);
                    x.wind(1, Tell.SLACK, 1, 0);
                    x.wind(0, Tell.GAP, 1, 0);
                    x.wind(0, Tell.GAP, 1, 0);
                    x.wind(1, Tell.GAP, 1, 0);
                    x.wind(2, Tell.GAP, 1, 0);
                    x.fill(kind * weight);
                    int[][] places = {{0, 0}, {0, 1}, {1, 0}, {1, 2}, {2, 0}, {2, 1}};
                    for (int i = 0; i < 6; i++) {
                        Check.due("KIND of gap " + i, x.segment(places[i][0], places[i][1], 0), i == gap ? kind : 0);
                    }
                }
                weight *= 3;
            }
        });
        Check.sentence("IV", "weighs 1, the next 3, then 9 ..", () -> {
            CordCart x = new CordCart();
            x.start(9, 9, 0);
            x.hard(8);
            Tell.cord(x, 0, Tell.GAP, 1, Tell.GAP, 1);
            Tell.cord(x, 1, Tell.GAP, 1, Tell.FORTH, 1);
            Tell.cord(x, 2, Tell.GAP, 1);
            x.spot(1, 8, 9);
            x.spot(2, 9, 9);
            // Both wheels BACK to cell 8, then the left one FORTH or SLACK; the drum is no matter.
            Check.due("fillings()", x.fillings(), 6);
            x.spotless();
            x.spot(1, 8, 9);
            x.spot(2, 8, 9);
            for (int i = 0, found = 0; i < 81; i++) {
                if (agreesByHand(i)) {
                    Check.due("filling(" + found + ")", x.filling(found), i);
                    found++;
                }
            }
        });
    }

    /** Cells 8 and 8 behind units 1 and 2, from X 9500, by half cells. */
    private static boolean agreesByHand(int number) {
        int[] turn = {1, -1, 0};
        int first = 19 + turn[number % 3] + turn[number / 9 % 3];
        int second = first + turn[number / 3 % 3] + 1;
        return first / 2 == 8 && second / 2 == 8;
    }

    private static void fillings() {
        Check.sentence("26", "How many FILLINGS AGREE.", () -> {
            CordCart x = new CordCart();
            Check.due("no gaps, no SPOTS", x.fillings(), 1);
            x.spot(1, 1, 0);
            Check.due("no gaps, a SPOT that is missed", x.fillings(), 0);
            Tell.wheels(x, Tell.GAP, 3, Tell.FORTH, 2);
            // FORTH both, or one of them and the other SLACK: a half cell is enough.
            Check.due("by the first unit", x.fillings(), 3);
            x.spotless();
            Check.due("all", x.fillings(), 9);
            x.spot(3, 0, 0);
            // SLACK both, or one FORTH and the other BACK.
            Check.due("in the first cell still", x.fillings(), 3);
            x.spot(5, 2, 0);
            Check.due("and two further", x.fillings(), 1);
            Check.due("which one", x.filling(0), 2 + 3 * 2);
            x.wind(2, Tell.GAP, 9, 0);
            Check.due("the drum is no matter", x.fillings(), 3);
            x.fall(0);
            Check.due("without FALL none goes on", x.fillings(), 0);
            x.spotless();
            x.spot(4000, 0, 0);
            Check.due("without FALL all stay", x.fillings(), 27);
            Check.due("nothing is filled", x.count(5), 3);
        });
        Check.sentence("26", "SPENT: there are more than 6 UNKNOWN SEGMENTS.", () -> {
            int due = 1;
            for (int gaps = 0; gaps <= 6; gaps++) {
                CordCart x = new CordCart();
                for (int i = 0; i < gaps; i++) {
                    x.wind(i % 3, Tell.GAP, 1, 0);
                }
                Check.due("fillings() of " + gaps, x.fillings(), due);
                due *= 3;
            }
            Twins.due("fillings() of 7", Tell::manyGaps, CordCart::fillings, -6);
            CordCart x = new CordCart();
            for (int i = 0; i < 7; i++) {
                x.wind(2, Tell.GAP, 1, 0);
            }
            Check.due("fillings() of 7 on an AXLE", x.fillings(), -6);
            for (int axle = 0; axle < 3; axle++) {
                Tell.full(x, axle, Tell.GAP, 200, 0);
            }
            Check.due("fillings() of 120", x.fillings(), -6);
        });
        Twins.due("fillings() with gaps", Tell::gaps, CordCart::fillings, 3);
    }

    private static void filling() {
        Check.sentence("27", "The number of the i-th FILLING that AGREES (by number).", () -> {
            CordCart x = new CordCart();
            Check.due("no gaps", x.filling(0), 0);
            x.start(5, 5, 0);
            Tell.cord(x, 0, Tell.FORTH, 1, Tell.GAP, 2);
            Tell.cord(x, 1, Tell.GAP, 1, Tell.FORTH, 2);
            Tell.cord(x, 2, Tell.GAP, 3);
            x.spot(1, 6, 5);
            x.spot(3, 8, 5);
            // The left gap is FORTH, the right one FORTH or SLACK (a half cell less), the drum's any.
            int[] numbers = {0, 6, 9, 15, 18, 24};
            for (int i = 0; i < numbers.length; i++) {
                Check.due("filling(" + i + ")", x.filling(i), numbers[i]);
            }
            Check.due("fillings()", x.fillings(), numbers.length);
            Check.due("nothing is filled", x.count(5), 3);
        });
        Check.sentence("27", "NONE: there is none", () -> {
            Twins.due("filling(3) of three", Tell::gaps, x -> x.filling(3), -1);
            Twins.due("filling(2) of three", Tell::gaps, x -> x.filling(2), 7);
            for (int i : Check.outside(0, 2)) {
                Twins.due("filling(" + i + ") of three", Tell::gaps, x -> x.filling(i), -1);
            }
            CordCart y = new CordCart();
            for (int i = 0; i < 6; i++) {
                y.wind(i % 3, Tell.GAP, 1, 0);
            }
            Check.due("filling(728) of 729", y.filling(728), 728);
            Check.due("filling(729) of 729", y.filling(729), -1);
            y.spot(1, 9, 9);
            Check.due("none agrees", y.filling(0), -1);
        });
        Check.sentence("27", "; SPENT: likewise (ahead of NONE, but i below 0: NONE).", () -> {
            Twins.due("filling(0) of 7", Tell::manyGaps, x -> x.filling(0), -6);
            Twins.due("filling(MAX) of 7", Tell::manyGaps, x -> x.filling(Integer.MAX_VALUE), -6);
            Twins.due("filling(-1) of 7", Tell::manyGaps, x -> x.filling(-1), -1);
            Twins.due("filling(MIN) of 7", Tell::manyGaps, x -> x.filling(Integer.MIN_VALUE), -1);
        });
    }

    private static void fill() {
        Check.sentence("28", "The UNKNOWN SEGMENTS become as a FILLING says (by its number): how many they were.", () -> {
            CordCart x = new CordCart();
            Check.due("fill(0) without gaps", x.fill(0), 0);
            x.wind(2, Tell.GAP, 9, 1);
            x.wind(1, Tell.GAP, 8, 0);
            x.wind(1, Tell.BACK, 7, 0);
            x.wind(1, Tell.GAP, 6, 0);
            x.wind(0, Tell.GAP, 5, 0);
            x.spot(1, 31, 31);
            Check.due("none agrees", x.fillings(), 0);
            // By AXLE, then SEGMENT: 1 + 3 * 2 + 9 * 0 + 27 * 1.
            Check.due("fill(34) all the same", x.fill(34), 4);
            Check.due("the first", x.segment(0, 0, 0), Tell.BACK);
            Check.due("the second", x.segment(1, 0, 0), Tell.SLACK);
            Check.due("the third", x.segment(1, 2, 0), Tell.FORTH);
            Check.due("the fourth", x.segment(2, 0, 0), Tell.BACK);
            Check.due("whole", x.count(5), 0);
            Check.due("count(0)", x.count(0), 5);
            Check.due("fill(0) again", x.fill(0), 0);
        });
        Check.sentence("28", "become as a FILLING says (by its number)", () -> {
            for (int number = 0; number < 27; number++) {
                CordCart x = new CordCart();
                x.start(9, 9, 0);
                Tell.cord(x, 0, Tell.FORTH, 1, Tell.GAP, 3);
                Tell.cord(x, 1, Tell.GAP, 2, Tell.GAP, 2);
                x.spot(4, 10, 9);
                boolean agrees = false;
                for (int i = 0; x.filling(i) >= 0; i++) {
                    agrees = agrees || x.filling(i) == number;
                }
                x.fill(number);
                Check.due("miss() of FILLING " + number, x.miss(), agrees ? 0 : 1);
            }
        });
    }

    private static void fillNumbers() {
        Check.sentence("28", "NONE: no such number", () -> {
            int fillings = 1;
            for (int gaps = 0; gaps <= 6; gaps++) {
                int of = gaps;
                for (int number : Check.outside(0, fillings - 1)) {
                    Twins.due("fill(" + number + ") of " + gaps, x -> {
                        for (int i = 0; i < of; i++) {
                            x.wind(i % 3, Tell.GAP, 1 + i, i % 2);
                        }
                    }, x -> x.fill(number), -1);
                }
                CordCart last = new CordCart();
                for (int i = 0; i < gaps; i++) {
                    last.wind(i % 3, Tell.GAP, 1, 0);
                }
                Check.due("the last number of " + gaps, last.fill(fillings - 1), gaps);
                Check.due("all SLACK: show()", last.show(), (gaps + 2) / 3);
                fillings *= 3;
            }
        });
    }

    private static void fillOfMany() {
        Check.sentence("28", "; SPENT: likewise.", () -> {
            Twins.due("fill(0) of 7", Tell::manyGaps, x -> x.fill(0), -6);
            Twins.due("fill(2186) of 7", Tell::manyGaps, x -> x.fill(2186), -6);
            Twins.due("fill(2187) of 7", Tell::manyGaps, x -> x.fill(2187), -1);
            Twins.due("fill(-1) of 7", Tell::manyGaps, x -> x.fill(-1), -1);
            Twins.due("fill(MAX) of 7", Tell::manyGaps, x -> x.fill(Integer.MAX_VALUE), -1);
        });
        Check.sentence("VI", "Of several refusals the one that is named first in a method's words is answered.", () -> {
            CordCart x = new CordCart();
            for (int i = 0; i < 19; i++) {
                x.wind(i % 3, Tell.GAP, 1, 0);
            }
            Check.due("the last number of 19", x.fill(1162261466), -6);
            Check.due("no number of 19", x.fill(1162261467), -1);
            Check.due("below", x.fill(Integer.MIN_VALUE), -1);
            x.wind(0, Tell.GAP, 1, 0);
            Check.due("all are numbers of 20", x.fill(Integer.MAX_VALUE), -6);
            for (int axle = 0; axle < 3; axle++) {
                Tell.full(x, axle, Tell.GAP, 1, 0);
                Check.due("all are numbers of more", x.fill(Integer.MAX_VALUE), -6);
                Check.due("0 too", x.fill(0), -6);
                Check.due("but none below 0", x.fill(-1), -1);
            }
            Check.due("nothing is filled", x.count(5), 120);
        });
    }

    private static void toldSlips() {
        String rule = "A SLIP is told by an AXLE and a SEGMENT (the one behind which the next is given as SLACK);"
            + " it EXPLAINS the SPOTS if a run with it, likewise unit by unit, AGREES with them";
        Check.sentence("IV", rule, () -> {
            CordCart x = new CordCart();
            x.start(31, 9, 8);
            x.hard(8);
            Tell.cord(x, 0, Tell.FORTH, 3, Tell.FORTH, 2, Tell.FORTH, 4);
            Tell.cord(x, 1, Tell.FORTH, 9);
            x.spot(3, 28, 9);
            // From DIRECTION 8 the first half cell that is missing shows at once.
            x.spot(4, 28, 9);
            x.spot(5, 27, 9);
            x.spot(9, 23, 9);
            Check.due("slips()", x.slips(), 1);
            Check.due("the SEGMENT behind which there is SLACK", x.slip(0), 0);
            x.spotless();
            x.spot(5, 26, 9);
            x.spot(6, 26, 9);
            Check.due("slips() of the other", x.slips(), 1);
            Check.due("the other", x.slip(0), 1);
            Check.due("the cords stay", x.segment(0, 2, 0), Tell.FORTH);
        });
        Check.sentence("IV", rule, () -> {
            CordCart x = new CordCart();
            x.start(9, 0, 8);
            Tell.wheels(x, Tell.FORTH, 2, Tell.SLACK, 2, Tell.FORTH, 1);
            x.spot(5, 6, 0);
            Check.due("into SLACK it is a SLIP too", x.slips(), 2);
            Check.due("the left wheel's", x.slip(0), 0);
            Check.due("the right wheel's", x.slip(1), 100);
        });
        Check.sentence("IV", "(WORN and SAND aren't looked at).", () -> {
            for (int worn = 0; worn < 2; worn++) {
                for (int hold = 1; hold <= 9; hold += 8) {
                    CordCart x = new CordCart();
                    Tell.sand(x, 9, 0);
                    x.hold(hold);
                    for (int axle = 0; axle < 3; axle++) {
                        x.wind(axle, Tell.FORTH, 2, worn);
                        x.wind(axle, Tell.FORTH, 2, worn);
                    }
                    x.spot(4, 3, 0);
                    Check.due("slips()", x.slips(), 2);
                    Check.due("slip(1)", x.slip(1), 100);
                    x.spot(1, 1, 0);
                    x.spot(3, 2, 0);
                    Check.due("pair()", x.pair(), -1);
                    x.spotless();
                    x.spot(4, 2, 0);
                    Check.due("pair() of both wheels", x.pair(), 1);
                }
            }
        });
        Check.sentence("IV", "likewise unit by unit", () -> {
            CordCart x = new CordCart();
            Tell.wheels(x, Tell.FORTH, 2, Tell.FORTH, 2);
            x.spot(4000, 3, 0);
            Check.due("a UNIT beyond the end", x.slips(), 2);
            x.fall(3);
            Check.due("up to FALL: a half cell less is cell 3 still", x.slips(), 2);
            x.fall(2);
            Check.due("no SLIP ahead of FALL", x.slips(), 0);
            x.start(1, 0, 0);
            Check.due("from another START", x.slips(), 2);
            Check.due("a pair behind FALL", x.pair(), 1);
        });
    }

    private static void slipOrder() {
        String rule = "SLIPS are in the order of AXLES, then SEGMENTS; only SEGMENTS that have one behind them.";
        Check.sentence("IV", rule, () -> {
            CordCart x = new CordCart();
            x.wind(2, Tell.FORTH, 1, 0);
            x.wind(1, Tell.FORTH, 1, 0);
            x.wind(2, Tell.FORTH, 1, 0);
            x.wind(0, Tell.FORTH, 1, 0);
            x.wind(2, Tell.FORTH, 1, 0);
            x.wind(0, Tell.FORTH, 1, 0);
            int[] due = {0, 200, 201};
            Check.due("slips()", x.slips(), due.length);
            for (int i = 0; i < due.length; i++) {
                Check.due("slip(" + i + ")", x.slip(i), due[i]);
            }
            Check.due("no fourth", x.slip(3), -1);
        });
        Check.sentence("IV", "only SEGMENTS that have one behind them.", () -> {
            CordCart x = new CordCart();
            Check.due("bare cords", x.slips(), 0);
            for (int axle = 0; axle < 3; axle++) {
                x.wind(axle, Tell.FORTH, 2, 0);
            }
            Check.due("one SEGMENT on each AXLE", x.slips(), 0);
            Check.due("no pair of them", x.pair(), -1);
            for (int axle = 0; axle < 3; axle++) {
                x.wind(axle, Tell.FORTH, 2, 0);
                Check.due("two on " + axle, x.slips(), axle + 1);
                Check.due("the last one", x.slip(axle), 100 * axle);
            }
            for (int axle = 0; axle < 3; axle++) {
                Tell.full(x, axle, Tell.SLACK, 1, 0);
            }
            Check.due("40 on each AXLE", x.slips(), 117);
            Check.due("the left wheel's last", x.slip(38), 38);
            Check.due("the right wheel's first", x.slip(39), 100);
            Check.due("the last of all", x.slip(116), 238);
            Check.due("no further one", x.slip(117), -1);
        });
    }

    private static void slips() {
        Check.sentence("29", "How many SLIPS EXPLAIN the SPOTS.", () -> {
            CordCart x = new CordCart();
            for (int axle = 0; axle < 3; axle++) {
                Tell.cord(x, axle, Tell.FORTH, 2, Tell.FORTH, 2);
            }
            Check.due("no SPOTS", x.slips(), 3);
            x.spot(2, 2, 0);
            Check.due("ahead of them all", x.slips(), 3);
            x.spot(4, 4, 0);
            Check.due("only the drum's", x.slips(), 1);
            x.spotless();
            x.spot(4, 3, 0);
            Check.due("one wheel's", x.slips(), 2);
            x.spotless();
            x.spot(9, 2, 0);
            Check.due("none so near", x.slips(), 0);
        });
        Twins.due("slips()", Tell::much, CordCart::slips, 0);
        Check.sentence("29", "UNKNOWN: the cords aren't WHOLE.", () -> {
            Twins.due("slips() with gaps", Tell::gaps, CordCart::slips, -3);
            for (int axle = 0; axle < 3; axle++) {
                CordCart x = new CordCart();
                x.wind(axle, Tell.GAP, 1, 0);
                Check.due("slips() with a gap on " + axle, x.slips(), -3);
                Check.due("slip(0) with a gap on " + axle, x.slip(0), -3);
                Check.due("pair() with a gap on " + axle, x.pair(), -3);
            }
        });
    }

    private static void slip() {
        Check.sentence("30", "The i-th SLIP that EXPLAINS the SPOTS: 100 times its AXLE, plus its SEGMENT.", () -> {
            int[][] kinds = {{0, 2, 0, 1, 0}, {0, 0, 1, 0, 0}, {0, 1, 2, 0}};
            int[][] spots = {{4, 7, 9}, {8, 7, 9}, {9, 6, 9}, {10, 6, 9}};
            int[] due = {9, 4, 7, 4};
            for (int told = 0; told < 4; told++) {
                CordCart x = withSlack(kinds, -1, -1, spots[told]);
                int found = 0;
                for (int axle = 0; axle < 3; axle++) {
                    for (int segment = 0; segment + 1 < kinds[axle].length; segment++) {
                        if (withSlack(kinds, axle, segment + 1, spots[told]).miss() == 0) {
                            Check.due("slip(" + found + ")", x.slip(found), 100 * axle + segment);
                            found++;
                        }
                    }
                }
                Check.due("found by hand", found, due[told]);
                Check.due("slips()", x.slips(), found);
                Check.due("no further one", x.slip(found), -1);
            }
        });
        Check.sentence("30", "NONE: there is none", () -> {
            CordCart y = new CordCart();
            Check.due("bare cords", y.slip(0), -1);
            Tell.wheels(y, Tell.FORTH, 1, Tell.FORTH, 1);
            Check.due("slip(1) of two", y.slip(1), 100);
            for (int i : Check.outside(0, 1)) {
                Check.due("slip(" + i + ") of two", y.slip(i), -1);
            }
            y.spot(1, 9, 9);
            Check.due("none explains", y.slip(0), -1);
            Twins.due("slip(0)", Tell::much, x -> x.slip(0), -1);
        });
        Check.sentence("30", "; UNKNOWN: likewise (ahead of NONE, but i below 0: NONE).", () -> {
            Twins.due("slip(0) with gaps", Tell::gaps, x -> x.slip(0), -3);
            Twins.due("slip(MAX) with gaps", Tell::gaps, x -> x.slip(Integer.MAX_VALUE), -3);
            Twins.due("slip(-1) with gaps", Tell::gaps, x -> x.slip(-1), -1);
            Twins.due("slip(MIN) with gaps", Tell::gaps, x -> x.slip(Integer.MIN_VALUE), -1);
        });
    }

    /** One SEGMENT is wound as SLACK in the stead of its own KIND. */
    private static CordCart withSlack(int[][] kinds, int slackAxle, int slackSegment, int[] spot) {
        CordCart x = new CordCart();
        x.start(9, 9, 8);
        for (int axle = 0; axle < 3; axle++) {
            for (int i = 0; i < kinds[axle].length; i++) {
                x.wind(axle, axle == slackAxle && i == slackSegment ? Tell.SLACK : kinds[axle][i], 1 + axle, 0);
            }
        }
        x.spot(spot[0], spot[1], spot[2]);
        return x;
    }

    private static void pair() {
        String rule = "The first pair of SLIPS (the first one by order, then the second behind it) that together EXPLAIN the SPOTS:"
            + " 1000 times the number of the first among all SLIPS (as ordered in IV, from 0) and that of the second.";
        Check.sentence("31", rule, () -> {
            CordCart x = new CordCart();
            Tell.wheels(x, Tell.FORTH, 2, Tell.FORTH, 2);
            Tell.cord(x, 2, Tell.FORTH, 1, Tell.FORTH, 1, Tell.FORTH, 1);
            Check.due("no SPOTS", x.pair(), 1);
            x.spot(4, 2, 0);
            Check.due("both wheels", x.pair(), 1);
            x.spotless();
            x.spot(4, 3, 0);
            Check.due("one wheel and the drum's first", x.pair(), 2);
            x.spotless();
            x.spot(4, 4, 0);
            Check.due("the drum's two", x.pair(), 2003);
            Check.due("the cords stay", x.miss(), 0);
        });
        Check.sentence("31", rule, () -> {
            CordCart x = new CordCart();
            x.start(31, 9, 8);
            x.hard(8);
            Tell.cord(x, 0, Tell.FORTH, 30);
            for (int i = 0; i < 30; i++) {
                x.wind(1, Tell.FORTH, 1, 0);
            }
            x.spot(28, 3, 9);
            Check.due("the last pair of all", x.pair(), 27028);
            x.spot(29, 3, 9);
            Check.due("the last pair still", x.pair(), 27028);
            x.spot(29, 2, 9);
            Check.due("none", x.pair(), -1);
        });
        Check.sentence("31", "among all SLIPS (as ordered in IV, from 0)", () -> {
            CordCart x = new CordCart();
            x.start(31, 9, 8);
            for (int i = 0; i < 31; i++) {
                x.wind(0, Tell.FORTH, 1, 0);
                x.wind(1, Tell.FORTH, 1, 0);
            }
            Tell.full(x, 2, Tell.FORTH, 1, 0);
            x.spot(31, 0, 9);
            // No SLIP of the wheels, 30 and 30, explains it.
            Check.due("slips()", x.slips(), 39);
            Check.due("the drum's first two", x.pair(), 60061);
        });
        String twice = "(If the first slips into the SEGMENT that the second is told by, that one is SLACK,"
            + " and slips at its end all the same.)";
        Check.sentence("31", twice, () -> {
            CordCart x = new CordCart();
            x.start(31, 9, 8);
            x.hard(8);
            Tell.cord(x, 0, Tell.FORTH, 1, Tell.FORTH, 2, Tell.FORTH, 2, Tell.FORTH, 2);
            Tell.cord(x, 1, Tell.FORTH, 7);
            x.spot(2, 30, 9);
            x.spot(5, 28, 9);
            x.spot(7, 26, 9);
            // Half cells behind units 1, 2, 5, 7: 2, 3, 6, 10; one SLIP alone comes to 12 at the last.
            Check.due("the first and the second", x.pair(), 1);
            Check.due("no single one explains", x.slips(), 0);
        });
    }

    private static void pairOrder() {
        Check.sentence("31", "(the first one by order, then the second behind it)", () -> {
            int[][][] spots = {{}, {{3, 20, 11}}, {{5, 20, 11}}, {{3, 20, 10}, {6, 20, 11}}, {{4, 20, 11}, {8, 21, 11}},
                {{2, 20, 9}, {3, 20, 10}}, {{8, 20, 12}}, {{8, 19, 11}}};
            int[][] kinds = {{0, 0, 2, 0, 1, 0, 0}, {0, 1, 0, 0, 0}, {0, 0, 0}};
            int found = 0;
            for (int[][] told : spots) {
                CordCart x = wound(kinds, -1, -1, told);
                int due = firstPairByHand(kinds, told);
                Check.due("pair()", x.pair(), due);
                found += due > 1 ? 1 : 0;
            }
            Check.holds("some of them are not the first pair of all", found > 2);
        });
    }

    /** Two SEGMENTS, by the number of the SLIP into them, are wound as SLACK. */
    private static CordCart wound(int[][] kinds, int first, int second, int[][] spots) {
        CordCart x = new CordCart();
        x.start(20, 9, 4);
        int number = 0;
        for (int axle = 0; axle < 3; axle++) {
            for (int i = 0; i < kinds[axle].length; i++) {
                boolean slips = i > 0 && (number == first || number == second);
                x.wind(axle, slips ? Tell.SLACK : kinds[axle][i], 1 + (i + axle) % 2, 0);
                number += i > 0 ? 1 : 0;
            }
        }
        for (int[] s : spots) {
            x.spot(s[0], s[1], s[2]);
        }
        return x;
    }

    private static int firstPairByHand(int[][] kinds, int[][] spots) {
        int slips = kinds[0].length + kinds[1].length + kinds[2].length - 3;
        for (int first = 0; first < slips; first++) {
            for (int second = first + 1; second < slips; second++) {
                if (wound(kinds, first, second, spots).miss() == 0) {
                    return 1000 * first + second;
                }
            }
        }
        return -1;
    }

    private static void pairRefusals() {
        Check.sentence("31", "NONE: there is none", () -> {
            CordCart x = new CordCart();
            Check.due("bare cords", x.pair(), -1);
            Tell.cord(x, 0, Tell.SLACK, 1, Tell.SLACK, 1);
            Check.due("one SLIP alone", x.pair(), -1);
            x.wind(0, Tell.SLACK, 1, 0);
            Check.due("two", x.pair(), 1);
            x.spot(1, 9, 9);
            Check.due("two that don't explain", x.pair(), -1);
            for (int axle = 0; axle < 3; axle++) {
                Tell.full(x, axle, Tell.FORTH, 1, 0);
            }
            Check.due("none of 117 explains", x.slips(), 0);
            Check.due("nor do two of 117", x.pair(), -1);
        });
        Twins.due("pair()", Tell::much, CordCart::pair, 1);
        Check.sentence("31", "; UNKNOWN: likewise (ahead of NONE).", () -> {
            Twins.due("pair() with gaps", Tell::gaps, CordCart::pair, -3);
            CordCart x = new CordCart();
            x.wind(2, Tell.GAP, 1, 0);
            Check.due("no pair, and UNKNOWN", x.pair(), -3);
            x.fill(0);
            Check.due("no pair", x.pair(), -1);
        });
    }
}
