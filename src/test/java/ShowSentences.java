/** Term II, what term I says of ACTS, and promises 10 to 12 and 14 to 17. */
final class ShowSentences {
    private ShowSentences() {
    }

    static void hold() {
        sandRow();
        sand();
        sandRefusals();
        holdOf();
        holdCompared();
        slipping();
        slipped();
        slippedRefusals();
        fall();
        showEnds();
        showTicks();
        show();
        showKept();
        acts();
        acted();
        pose();
        astray();
        poseRefusals();
    }

    private static void duePose(String when, CordCart x, int... pose) {
        for (int what = 0; what < pose.length; what++) {
            Check.due(when + ": pose(" + what + ")", x.pose(what), pose[what]);
        }
    }

    /** A SHOW's units and TICKS. */
    private static void dueShow(String when, CordCart x, int units, int ticks) {
        Check.due(when + ": show()", x.show(), units);
        Check.due(when + ": TICKS", x.pose(5), ticks);
    }

    private static void sandRow() {
        Check.sentence("II", "SAND: a row of 1 to 30 numbers (0 .. 9): how many units the WEIGHT falls in each TICK", () -> {
            CordCart x = new CordCart();
            x.wind(Tell.DRUM, Tell.FORTH, 45, 0);
            for (int number = 1; number <= 9; number++) {
                Tell.sand(x, number);
                dueShow("SAND " + number, x, (45 + number - 1) / number * number, (45 + number - 1) / number);
            }
            Tell.sand(x, 0, 1, 2, 3, 4, 5, 6, 7, 8, 9);
            dueShow("SAND 0 .. 9", x, 45, 10);
        });
        Check.sentence("II", ", again and again from its first", () -> {
            CordCart x = new CordCart();
            x.wind(Tell.DRUM, Tell.FORTH, 100, 0);
            Tell.sand(x, 2, 0, 3);
            // Each round is 5 units of 3 TICKS.
            dueShow("twenty rounds", x, 100, 60);
            x.fall(97);
            dueShow("up to the first of a round", x, 97, 58);
            dueShow("each SHOW begins with the first", x, 97, 58);
            long[] row = new long[30];
            row[0] = 9;
            row[29] = 1;
            Tell.sand(x, row);
            x.fall(19);
            dueShow("a row of 30, then its first", x, 19, 31);
            x.fall(20);
            dueShow("a row of 30, twice", x, 20, 60);
        });
        Check.sentence("II", "(at first the row 1)", () -> {
            CordCart x = new CordCart();
            x.wind(Tell.DRUM, Tell.FORTH, 9, 0);
            dueShow("at first", x, 9, 9);
        });
    }

    private static void sand() {
        Check.sentence("10", "SAND becomes the row of n numbers on TAPE d from place 0 on (bytes): n.", () -> {
            CordCart x = new CordCart();
            x.wind(Tell.DRUM, Tell.FORTH, 20, 0);
            for (int d = 0; d < 6; d++) {
                Tell.row(x, d, 1, d + 1, 9, 77);
                Check.due("sand(" + d + ", 1)", x.sand(d, 1), 1);
                dueShow("of TAPE " + d, x, (20 + d) / (d + 1) * (d + 1), (20 + d) / (d + 1));
                Check.due("sand(" + d + ", 2)", x.sand(d, 2), 2);
            }
            dueShow("6, 9", x, 21, 3);
            x.put(5, 0, 1);
            x.clear(5);
            dueShow("it is apart from the TAPE", x, 21, 3);
        });
        Check.sentence("10", "SAND becomes the row of n numbers", () -> {
            CordCart x = new CordCart();
            x.tape(1, 1, 64);
            for (int i = 0; i < 30; i++) {
                x.put(1, i, i == 29 ? 3 : 1);
            }
            x.put(1, 30, 99);
            x.wind(Tell.DRUM, Tell.FORTH, 64, 0);
            Check.due("30 of 64", x.sand(1, 30), 30);
            dueShow("two rounds of 30", x, 64, 60);
            Check.due("29 of 64", x.sand(1, 29), 29);
            dueShow("by ones", x, 64, 64);
            Check.due("1 of 64", x.sand(1, 1), 1);
            dueShow("by ones again", x, 64, 64);
        });
        Check.sentence("10", "; UNABLE: one is not 0 .. 9", () -> {
            CordCart y = new CordCart();
            Check.due("0 and 9", Tell.sand(y, 0, 9), 2);
            long[][] wrong = {{10}, {-1}, {1, 10}, {-1, 1}, {1, 2, -128}, {127, 1, 1}};
            for (long[] row : wrong) {
                Twins.due("sand of " + row[0] + " ..", x -> {
                    Tell.much(x);
                    Tell.row(x, 3, 1, row);
                }, x -> x.sand(3, row.length), -5);
            }
            Tell.row(y, 0, 1, 4, 10);
            Check.due("the wrong one is behind n", y.sand(0, 1), 1);
            Tell.row(y, 0, 1, 256 + 4);
            Check.due("narrowed to a byte first", y.sand(0, 1), 1);
        });
        Check.sentence("10", ", or all are 0.", () -> {
            for (int n : new int[] {1, 2, 30}) {
                Twins.due("sand(3, " + n + ") of 0 alone", x -> {
                    Tell.much(x);
                    x.tape(3, 1, 31);
                    x.put(3, n, 1);
                }, x -> x.sand(3, n), -5);
            }
            CordCart y = new CordCart();
            Check.due("but for the last", Tell.sand(y, 0, 0, 1), 3);
            Check.due("but for the first", Tell.sand(y, 1, 0, 0), 3);
        });
    }

    private static void sandRefusals() {
        Check.sentence("10", "NONE: no such TAPE", () -> {
            for (int d : Check.outside(0, 5)) {
                Twins.due("sand(" + d + ", 1)", Tell::much, x -> x.sand(d, 1), -1);
            }
        });
        Check.sentence("10", ", n is not 1 .. 30", () -> {
            for (int n : Check.outside(1, 30)) {
                Twins.due("sand(3, " + n + ")", x -> {
                    Tell.much(x);
                    x.tape(3, 1, 64);
                    x.put(3, 0, 1);
                }, x -> x.sand(3, n), -1);
            }
        });
        Check.sentence("10", "; NOTHING; CAST: it is no row of bytes", () -> {
            Twins.due("sand(3, 1) of nothing", Tell::much, x -> x.sand(3, 1), -11);
            Twins.due("sand(1, 1) of shorts", Tell::much, x -> x.sand(1, 1), -12);
            Twins.due("sand(2, 1) of ints", Tell::much, x -> x.sand(2, 1), -12);
            Twins.due("sand(4, 1) of longs", Tell::much, x -> x.sand(4, 1), -12);
            Twins.due("sand(5, 1) of a cart", Tell::much, x -> x.sand(5, 1), -12);
        });
        Check.sentence("10", "; PLACE: the row has not so many", () -> {
            Twins.due("sand(0, 4) of 3", Tell::much, x -> x.sand(0, 4), -13);
            Twins.due("sand(0, 30) of 3", Tell::much, x -> x.sand(0, 30), -13);
            Twins.due("sand(3, 1) of a row without places", x -> {
                Tell.much(x);
                x.tape(3, 1, 0);
            }, x -> x.sand(3, 1), -13);
            CordCart y = new CordCart();
            Tell.row(y, 0, 1, 1, 2, 3);
            Check.due("sand(0, 3) of 3", y.sand(0, 3), 3);
        });
        Check.sentence("VI", "Of several refusals the one that is named first in a method's words is answered.", () -> {
            CordCart x = new CordCart();
            Check.due("n, and nothing", x.sand(0, 0), -1);
            Check.due("n above, and nothing", x.sand(0, 31), -1);
            x.tape(0, 2, 1);
            x.put(0, 0, 99);
            Check.due("n, and shorts", x.sand(0, 31), -1);
            Check.due("shorts, and not so many", x.sand(0, 2), -12);
            Check.due("shorts, and not 0 .. 9", x.sand(0, 1), -12);
            x.tape(0, 1, 1);
            Check.due("n, and not so many", x.sand(0, 31), -1);
            Check.due("not so many, and all are 0", x.sand(0, 2), -13);
            x.put(0, 0, 99);
            Check.due("n, and not 0 .. 9", x.sand(0, 0), -1);
            Check.due("not so many, and not 0 .. 9", x.sand(0, 2), -13);
            Check.due("not 0 .. 9 alone", x.sand(0, 1), -5);
        });
    }

    private static void holdOf() {
        Check.sentence("II", "HOLD (1 .. 9; 9 at first).", () -> {
            CordCart x = new CordCart();
            Check.due("hold(1) at first", x.hold(1), 9);
            Check.due("hold(9)", x.hold(9), 1);
            Check.due("hold(0)", x.hold(0), -1);
            Check.due("hold(10)", x.hold(10), -1);
            Check.due("hold(5)", x.hold(5), 9);
        });
        Check.sentence("11", "HOLD becomes another: the one it was.", () -> {
            CordCart x = new CordCart();
            int was = 9;
            for (int hold : new int[] {1, 9, 4, 4, 2}) {
                Check.due("hold(" + hold + ")", x.hold(hold), was);
                was = hold;
            }
        });
        Check.sentence("11", "NONE.", () -> {
            for (int hold : Check.outside(1, 9)) {
                Twins.due("hold(" + hold + ")", Tell::much, x -> x.hold(hold), -1);
            }
        });
    }

    private static void holdCompared() {
        Check.sentence("II", "In a TICK whose number of SAND is above HOLD", () -> {
            CordCart x = new CordCart();
            x.wind(Tell.DRUM, Tell.FORTH, 1, 1);
            x.wind(Tell.DRUM, Tell.FORTH, 1, 0);
            for (int number = 1; number <= 9; number++) {
                Tell.sand(x, number);
                for (int hold = 1; hold <= 9; hold++) {
                    x.hold(hold);
                    x.show();
                    Check.due("SAND " + number + ", HOLD " + hold, x.pose(7), number > hold ? 1 : 0);
                }
            }
        });
        Check.sentence("II", "an AXLE that gives in it the last unit of a WORN SEGMENT", () -> {
            CordCart x = new CordCart();
            Tell.sand(x, 2, 3, 2);
            x.hold(2);
            for (int length = 1; length <= 8; length++) {
                x.unwind(Tell.DRUM);
                x.wind(Tell.DRUM, Tell.FORTH, length, 1);
                x.wind(Tell.DRUM, Tell.FORTH, 1, 0);
                x.show();
                // Units 3, 4 and 5 are of the TICK of 3.
                boolean slips = length >= 3 && length <= 5;
                Check.due("last unit " + length, x.pose(7), slips ? 1 : 0);
                Check.due("STEP of last unit " + length, x.pose(4), slips ? length : length + 1);
            }
        });
        Check.sentence("II", "In a TICK whose number of SAND is above HOLD", () -> {
            CordCart x = new CordCart();
            x.wind(Tell.DRUM, Tell.FORTH, 1, 1);
            x.wind(Tell.DRUM, Tell.FORTH, 1, 0);
            Tell.sand(x, 9);
            x.hold(8);
            x.fall(1);
            dueShow("FALL cuts the TICK's units, not its number", x, 1, 1);
            Check.due("it slips", x.pose(7), 1);
        });
    }

    /** Two units of a WORN SEGMENT, then 3 of a kind, then 4 FORTH; all in one TICK of 9. */
    private static CordCart wornOne(int worn, int kind) {
        CordCart x = new CordCart();
        Tell.sand(x, 9);
        x.hold(1);
        x.wind(Tell.DRUM, Tell.FORTH, 2, worn);
        x.wind(Tell.DRUM, kind, 3, 0);
        x.wind(Tell.DRUM, Tell.FORTH, 4, 0);
        x.show();
        return x;
    }

    private static void slipping() {
        Check.sentence("II", "of a WORN SEGMENT with one behind it SLIPS there", () -> {
            CordCart calm = wornOne(0, Tell.FORTH);
            Check.due("not WORN: slips", calm.pose(7), 0);
            Check.due("not WORN: STEP", calm.pose(4), 9);
            CordCart x = new CordCart();
            Tell.sand(x, 9);
            x.hold(1);
            for (int axle = 0; axle < 3; axle++) {
                x.wind(axle, Tell.FORTH, 2, 1);
            }
            x.show();
            Check.due("none behind it", x.pose(7), 0);
            x.wind(Tell.RIGHT, Tell.FORTH, 2, 0);
            x.show();
            Check.due("one behind it", x.pose(7), 1);
            Check.due("on its AXLE", x.slipped(0, 0), Tell.RIGHT);
        });
        Check.sentence("II", ": that one behind is given as SLACK", () -> {
            CordCart x = wornOne(1, Tell.FORTH);
            Check.due("slips", x.pose(7), 1);
            Check.due("STEP: the SEGMENT behind it goes on by its KIND", x.pose(4), 6);
            Check.due("the cord stays as it is", x.segment(Tell.DRUM, 1, 0), Tell.FORTH);
            Check.due("and is as long", x.cord(Tell.DRUM), 9);
            Check.due("the next SHOW slips anew", x.show(), 9);
            Check.due("slips again", x.pose(7), 1);
            x.hold(9);
            x.show();
            Check.due("STEP without slips", x.pose(4), 9);
        });
        Check.sentence("II", "(its own KIND isn't looked at).", () -> {
            for (int kind = 0; kind < 3; kind++) {
                CordCart x = wornOne(1, kind);
                Check.due("KIND " + kind + ": slips", x.pose(7), 1);
                Check.due("KIND " + kind + ": STEP", x.pose(4), 6);
            }
        });
        Check.sentence("II", ": that one behind is given as SLACK", () -> {
            CordCart x = new CordCart();
            Tell.sand(x, 3);
            x.hold(1);
            x.wind(Tell.DRUM, Tell.FORTH, 2, 1);
            x.wind(Tell.DRUM, Tell.BACK, 3, 1);
            x.wind(Tell.DRUM, Tell.FORTH, 4, 0);
            x.wind(Tell.DRUM, Tell.BACK, 1, 0);
            x.show();
            // The second is given as SLACK, and, as it is WORN, slips at its end all the same.
            Check.due("slips", x.pose(7), 2);
            Check.due("STEP", x.pose(4), 1);
        });
    }

    private static void slipped() {
        Check.sentence("17", "Of the SHOW's i-th SLIP", () -> {
            CordCart x = new CordCart();
            Tell.sand(x, 3, 2);
            x.hold(2);
            x.wind(Tell.RIGHT, Tell.FORTH, 5, 0);
            x.wind(Tell.RIGHT, Tell.FORTH, 2, 1);
            x.wind(Tell.RIGHT, Tell.FORTH, 4, 0);
            x.show();
            // Units 6, 7 and 8 are of the second TICK of 3.
            Check.due("AXLE", x.slipped(0, 0), Tell.RIGHT);
            Check.due("SEGMENT", x.slipped(0, 1), 1);
            Check.due("UNIT", x.slipped(0, 2), 7);
        });
        Check.sentence("17", "(by unit, then AXLE; up to 20 are kept): what 0 AXLE, 1 SEGMENT, 2 UNIT.", () -> {
            CordCart x = new CordCart();
            Tell.sand(x, 9);
            x.hold(1);
            int[][] lengths = {{3, 2}, {1, 4}, {3, 1}};
            for (int axle = 0; axle < 3; axle++) {
                x.wind(axle, Tell.FORTH, lengths[axle][0], 1);
                x.wind(axle, Tell.FORTH, lengths[axle][1], 1);
                x.wind(axle, Tell.FORTH, 1, 1);
            }
            x.show();
            int[][] due = {{1, 0, 1}, {0, 0, 3}, {2, 0, 3}, {2, 1, 4}, {0, 1, 5}, {1, 1, 5}};
            Check.due("slips", x.pose(7), due.length);
            for (int i = 0; i < due.length; i++) {
                for (int what = 0; what < 3; what++) {
                    Check.due("slipped(" + i + ", " + what + ")", x.slipped(i, what), due[i][what]);
                }
            }
            Check.due("no seventh", x.slipped(6, 0), -1);
        });
        Check.sentence("17", "up to 20 are kept", () -> {
            for (int segments = 20; segments <= 22; segments++) {
                CordCart x = new CordCart();
                Tell.sand(x, 9);
                x.hold(8);
                for (int i = 0; i < segments; i++) {
                    x.wind(Tell.LEFT, Tell.FORTH, 2, 1);
                }
                x.show();
                Check.due("slips", x.pose(7), segments - 1);
                Check.due("the 19th", x.slipped(18, 1), 18);
                Check.due("the 20th", x.slipped(19, 1), segments > 20 ? 19 : -1);
                Check.due("the 20th's unit", x.slipped(19, 2), segments > 20 ? 40 : -1);
                Check.due("a 21st isn't kept", x.slipped(20, 1), -1);
            }
        });
    }

    private static void slippedRefusals() {
        Check.sentence("17", "NONE: there is none", () -> {
            CordCart bare = new CordCart();
            Check.due("no SHOW", bare.slipped(0, 0), -1);
            bare.show();
            Check.due("a SHOW without slips", bare.slipped(0, 0), -1);
            CordCart y = new CordCart();
            Tell.much(y);
            Check.due("the last of three", y.slipped(2, 1), 1);
            for (int i : Check.outside(0, 2)) {
                Twins.due("slipped(" + i + ", 0)", Tell::much, x -> x.slipped(i, 0), -1);
            }
            y.hold(9);
            y.show();
            Check.due("the SHOW of before had one", y.slipped(0, 0), -1);
        });
        Check.sentence("17", ", no such what.", () -> {
            for (int what : Check.outside(0, 2)) {
                Twins.due("slipped(0, " + what + ")", Tell::much, x -> x.slipped(0, what), -1);
            }
        });
    }

    private static void fall() {
        Check.sentence("II", "FALL (0 .. 4000; 2000 at first) is how many units the WEIGHT has.", () -> {
            CordCart x = new CordCart();
            Tell.full(x, Tell.DRUM, Tell.FORTH, 200, 0);
            Check.due("show() at first", x.show(), 2000);
            Check.due("fall(4000) at first", x.fall(4000), 2000);
            Check.due("show() with 4000", x.show(), 4000);
            Check.due("fall(4001)", x.fall(4001), -1);
            Check.due("fall(0)", x.fall(0), 4000);
            Check.due("show() with 0", x.show(), 0);
            Check.due("fall(-1)", x.fall(-1), -1);
            Check.due("fall(1)", x.fall(1), 0);
            Check.due("show() with 1", x.show(), 1);
        });
        Check.sentence("12", "FALL becomes another: the one it was.", () -> {
            CordCart x = new CordCart();
            int was = 2000;
            for (int fall : new int[] {0, 4000, 77, 77, 1}) {
                Check.due("fall(" + fall + ")", x.fall(fall), was);
                was = fall;
            }
        });
        Check.sentence("12", "NONE.", () -> {
            for (int fall : Check.outside(0, 4000)) {
                Twins.due("fall(" + fall + ")", Tell::much, x -> x.fall(fall), -1);
            }
        });
    }

    private static void showEnds() {
        Check.sentence("II", "A SHOW runs from the START TICK by TICK until FALL is used up", () -> {
            CordCart x = new CordCart();
            Tell.full(x, Tell.LEFT, Tell.SLACK, 200, 0);
            Tell.sand(x, 5);
            int[][] due = {{0, 0}, {1, 1}, {4, 1}, {5, 1}, {6, 2}, {3999, 800}, {4000, 800}};
            for (int[] units : due) {
                x.fall(units[0]);
                dueShow("FALL " + units[0], x, units[0], units[1]);
            }
            Tell.sand(x, 5, 0, 0);
            x.fall(5);
            dueShow("used up by the first TICK", x, 5, 1);
            x.fall(6);
            dueShow("used up by the fourth TICK", x, 6, 4);
        });
        Check.sentence("II", "or all cords are run out", () -> {
            for (int axle = 0; axle < 3; axle++) {
                CordCart x = new CordCart();
                for (int other = 0; other < 3; other++) {
                    Tell.cord(x, other, Tell.SLACK, other == axle ? 7 : 3);
                }
                dueShow("the longest cord is on " + axle, x, 7, 7);
                Tell.cord(x, axle);
                dueShow("without it", x, 3, 3);
            }
        });
        Check.sentence("II", "(looked at ahead of each TICK", () -> {
            CordCart x = new CordCart();
            Tell.sand(x, 0, 4, 0, 0);
            dueShow("bare cords: no TICK", x, 0, 0);
            x.wind(Tell.DRUM, Tell.FORTH, 4, 0);
            dueShow("run out by the TICK's last unit", x, 4, 2);
            x.wind(Tell.DRUM, Tell.FORTH, 1, 0);
            dueShow("run out within the next one, whose units all come", x, 8, 6);
            x.fall(4);
            dueShow("FALL used up just then", x, 4, 2);
            x.fall(0);
            dueShow("no FALL: no TICK", x, 0, 0);
        });
        Check.sentence("II", "; units of a TICK that are beyond FALL don't come", () -> {
            CordCart x = new CordCart();
            x.wind(Tell.DRUM, Tell.FORTH, 30, 0);
            Tell.sand(x, 9);
            int[][] due = {{8, 1}, {9, 1}, {10, 2}, {17, 2}, {18, 2}, {19, 3}};
            for (int[] units : due) {
                x.fall(units[0]);
                dueShow("FALL " + units[0], x, units[0], units[1]);
                Check.due("STEP", x.pose(4), units[0]);
            }
            x.fall(35);
            dueShow("beyond the cord, but not beyond FALL", x, 35, 4);
            Check.due("STEP", x.pose(4), 30);
        });
    }

    private static void showTicks() {
        Check.sentence("II", "; a SHOW of 9,999 TICKS ends)", () -> {
            CordCart x = new CordCart();
            x.fall(4000);
            x.wind(Tell.DRUM, Tell.FORTH, 200, 0);
            x.wind(Tell.DRUM, Tell.FORTH, 200, 0);
            long[] row = new long[30];
            row[29] = 1;
            Tell.sand(x, row);
            // A unit in each 30th TICK: the 333rd of them comes with TICK 9,990.
            dueShow("a unit in the last TICK of 30", x, 333, 9999);
            row[29] = 0;
            row[8] = 1;
            Tell.sand(x, row);
            dueShow("the 9,999th TICK has a unit", x, 334, 9999);
            row[8] = 0;
            row[9] = 1;
            Tell.sand(x, row);
            dueShow("the 10,000th TICK has one", x, 333, 9999);
            row[9] = 0;
            row[8] = 1;
            Tell.sand(x, row);
            x.fall(333);
            dueShow("FALL used up ahead of it", x, 333, 9969);
        });
    }

    private static void show() {
        Check.sentence("II", "It is for WHOLE cords.", () -> {
            CordCart x = new CordCart();
            dueShow("bare cords", x, 0, 0);
            x.wind(Tell.DRUM, Tell.GAP, 1, 0);
            Check.due("one UNKNOWN", x.show(), -3);
            x.fill(0);
            dueShow("filled", x, 1, 1);
        });
        Check.sentence("14", "A SHOW runs: how many units came.", () -> {
            CordCart x = new CordCart();
            Check.due("show() of bare cords", x.show(), 0);
            duePose("bare cords", x, 500, 500, 0, 0, 0, 0, 0, 0, 0);
            x.start(3, 3, 0);
            Tell.cord(x, Tell.LEFT, Tell.FORTH, 2, Tell.BACK, 1, Tell.SLACK, 1, Tell.FORTH, 4);
            Tell.cord(x, Tell.RIGHT, Tell.FORTH, 3);
            Tell.cord(x, Tell.DRUM, Tell.BACK, 9);
            Check.due("show()", x.show(), 9);
            duePose("show", x, 5500 + 4 * 500, 3500, 0, -2, -9, 9, 0, 0, 0);
        });
        Check.sentence("14", "UNKNOWN: the cords aren't WHOLE.", () -> {
            Twins.due("show() with gaps", Tell::gaps, CordCart::show, -3);
            for (int axle = 0; axle < 3; axle++) {
                int of = axle;
                Twins.due("show() with a gap on " + axle, x -> {
                    Tell.much(x);
                    x.wind(of, Tell.GAP, 1, 0);
                }, CordCart::show, -3);
            }
        });
    }

    private static void showKept() {
        Check.sentence("14", "It is kept (till the next one, or begin(); whatever is told since).", () -> {
            CordCart x = new CordCart();
            Tell.much(x);
            int[] pose = new int[9];
            for (int what = 0; what <= 8; what++) {
                pose[what] = x.pose(what);
            }
            x.start(9, 9, 0);
            x.peg(2, 0);
            x.peg(-3, 0);
            x.hard(5);
            x.hold(9);
            x.fall(1);
            x.block(4, 4);
            Tell.sand(x, 1);
            x.make();
            x.back(5);
            x.unwind(0);
            x.wind(1, Tell.GAP, 5, 0);
            Check.due("a refused show()", x.show(), -3);
            x.fill(0);
            x.miss();
            x.fillings();
            x.slips();
            x.pair();
            x.where(1, 0);
            duePose("kept", x, pose);
            Check.due("kept: its act", x.acted(0, 0), 5);
            Check.due("kept: its slip", x.slipped(0, 0), Tell.LEFT);
        });
        Check.sentence("14", "(till the next one, or begin(); ", () -> {
            CordCart x = new CordCart();
            Tell.much(x);
            for (int axle = 0; axle < 3; axle++) {
                x.unwind(axle);
            }
            x.start(8, 9, 3);
            Check.due("the next one", x.show(), 0);
            duePose("the next one", x, 8500, 9500, 3, 0, 0, 0, 0, 0, 0);
            Check.due("no act of before", () -> x.acted(0, 0), Check.STATE);
            Check.due("no slip of before", x.slipped(0, 0), -1);
            x.begin();
            Check.due("none behind begin()", () -> x.pose(5), Check.STATE);
        });
    }

    private static void acts() {
        String rule = "and if s isn't 0 and there is a PEG at the STEP then, its ACT is DONE:";
        Check.sentence("I", rule, () -> {
            CordCart x = new CordCart();
            Tell.cord(x, Tell.DRUM, Tell.SLACK, 2, Tell.FORTH, 1, Tell.SLACK, 3, Tell.BACK, 2, Tell.FORTH, 1);
            x.peg(0, 7);
            x.peg(1, 4);
            x.peg(-1, 9);
            x.show();
            // Not at the START, and not by SLACK: STEPS 0 0 1 1 1 1 0 -1 0.
            int[][] due = {{4, 3}, {7, 7}, {9, 8}, {7, 9}};
            Check.due("noted", x.pose(6), due.length);
            for (int i = 0; i < due.length; i++) {
                Check.due("acted(" + i + ", 0)", x.acted(i, 0), due[i][0]);
                Check.due("acted(" + i + ", 1)", x.acted(i, 1), due[i][1]);
            }
        });
        Check.sentence("I", rule, () -> {
            for (int side = -1; side <= 1; side += 2) {
                CordCart x = new CordCart();
                int kind = side > 0 ? Tell.FORTH : Tell.BACK;
                Tell.cord(x, Tell.DRUM, kind, 200, kind, 200, kind, 200);
                x.peg(side * 400, 5);
                x.peg(side * 399, 6);
                x.peg(side * -400, 7);
                x.show();
                Check.due("at the last STEPS alone", x.pose(6), 2);
                Check.due("at 399", x.acted(0, 0), 6);
                Check.due("at 400", x.acted(1, 0), 5);
                Check.due("unit of 400", x.acted(1, 1), 400);
                Check.due("STEP goes on", x.pose(4), side * 600);
            }
        });
        String place = "noted with the UNIT (1 for the first), and the cell the CART is in then";
        Check.sentence("I", place, () -> {
            CordCart x = new CordCart();
            x.start(0, 5, 8);
            Tell.wheels(x, Tell.FORTH, 2);
            Tell.cord(x, Tell.DRUM, Tell.FORTH, 3);
            for (int step = 1; step <= 3; step++) {
                x.peg(step, step);
            }
            x.show();
            int[][] due = {{1, 1, -1, 5}, {2, 2, -2, 5}, {3, 3, -2, 5}};
            for (int i = 0; i < 3; i++) {
                for (int what = 0; what < 4; what++) {
                    Check.due("acted(" + i + ", " + what + ")", x.acted(i, what), due[i][what]);
                }
            }
        });
        Check.sentence("I", "(up to 60 are noted).", () -> {
            for (int acts = 58; acts <= 62; acts++) {
                CordCart x = withActs(acts);
                int noted = Math.min(acts, 60);
                Check.due("the last one's unit", x.acted(noted - 1, 1), noted);
                Check.due("no further one", () -> x.acted(noted, 1), Check.STATE);
            }
        });
    }

    /** A SHOW with an ACT in each unit, 57 of them at the least: 12 forth, then 11 each time back and forth again. */
    private static CordCart withActs(int acts) {
        CordCart x = new CordCart();
        for (int step = 1; step <= 12; step++) {
            x.peg(step, step % 9 + 1);
        }
        Tell.cord(x, Tell.DRUM, Tell.FORTH, 12, Tell.BACK, 11, Tell.FORTH, 11, Tell.BACK, 11, Tell.FORTH, 11, Tell.BACK, acts - 56);
        Check.due("show()", x.show(), acts);
        return x;
    }

    private static void acted() {
        Check.sentence("16", "Of the SHOW's i-th noted ACT: what 0 ACT, 1 UNIT, 2 and 3 the cell's x and y (as they are).", () -> {
            CordCart x = new CordCart();
            x.start(31, 0, 13);
            x.block(31, 0);
            x.peg(1, 9);
            x.peg(9, 1);
            Tell.wheels(x, Tell.FORTH, 9);
            Tell.cord(x, Tell.DRUM, Tell.FORTH, 9);
            x.show();
            // A unit is 382, -924; the cells are as they are, beyond the FLOOR too.
            int[][] due = {{9, 1, 31, -1}, {1, 9, 34, -8}};
            for (int i = 0; i < 2; i++) {
                for (int what = 0; what < 4; what++) {
                    Check.due("acted(" + i + ", " + what + ")", x.acted(i, what), due[i][what]);
                }
            }
        });
        Check.sentence("16", "IllegalArgumentException: no such what", () -> {
            for (int what : Check.outside(0, 3)) {
                Twins.due("acted(0, " + what + ")", Tell::much, x -> x.acted(0, what), Check.ARGUMENT);
            }
        });
        Check.sentence("16", "; IllegalStateException: there is none.", () -> {
            CordCart bare = new CordCart();
            Check.due("no SHOW", () -> bare.acted(0, 0), Check.STATE);
            bare.show();
            Check.due("a SHOW without acts", () -> bare.acted(0, 0), Check.STATE);
            CordCart y = new CordCart();
            Tell.much(y);
            int noted = y.pose(6);
            Check.due("the last one", y.acted(noted - 1, 0), 6);
            for (int i : Check.outside(0, noted - 1)) {
                Twins.due("acted(" + i + ", 0)", Tell::much, x -> x.acted(i, 0), Check.STATE);
                Twins.due("acted(" + i + ", 3)", Tell::much, x -> x.acted(i, 3), Check.STATE);
            }
        });
        Check.sentence("VI", "Of several refusals the one that is named first in a method's words is answered.", () -> {
            CordCart x = new CordCart();
            Check.due("no such what, and no SHOW", () -> x.acted(0, 4), Check.ARGUMENT);
            Check.due("no such what, and none below", () -> x.acted(-1, -1), Check.ARGUMENT);
            Check.due("no such what of a pose, and no SHOW", () -> x.pose(9), Check.ARGUMENT);
            Check.due("no such what of a pose below, and no SHOW", () -> x.pose(-1), Check.ARGUMENT);
        });
    }

    private static void pose() {
        String rule = "Of the POSE behind the SHOW that is kept: what 0 X, 1 Y, 2 DIRECTION, 3 PHASE, 4 STEP, 5 TICKS, 6 ACTS noted, 7 SLIPS";
        Check.sentence("15", rule, () -> {
            CordCart x = new CordCart();
            x.start(4, 4, 4);
            x.hard(3);
            x.peg(2, 5);
            x.wind(Tell.LEFT, Tell.FORTH, 3, 1);
            x.wind(Tell.LEFT, Tell.FORTH, 4, 0);
            x.wind(Tell.RIGHT, Tell.FORTH, 5, 1);
            x.wind(Tell.RIGHT, Tell.BACK, 2, 0);
            x.wind(Tell.DRUM, Tell.FORTH, 3, 0);
            x.wind(Tell.DRUM, Tell.BACK, 4, 0);
            Tell.sand(x, 2, 5);
            x.hold(4);
            Check.due("show()", x.show(), 7);
            // Two by two for 3 units, then the left one slips: the right one goes 2 and, from its own slip on, is slack.
            duePose("of all", x, 4500, 4500 + 3 * 1000 + 2 * 500, 4, 2, -1, 2, 2, 2, 0);
        });
        Check.sentence("15", "7 SLIPS", () -> {
            CordCart x = new CordCart();
            Tell.sand(x, 9);
            x.hold(8);
            for (int axle = 0; axle < 3; axle++) {
                Tell.full(x, axle, Tell.FORTH, 1, 1);
            }
            x.show();
            Check.due("all slips, kept or not", x.pose(7), 117);
            x.unwind(0);
            x.unwind(1);
            x.show();
            Check.due("those of one AXLE", x.pose(7), 39);
        });
        Check.sentence("15", "6 ACTS noted", () -> {
            for (int acts = 58; acts <= 62; acts++) {
                CordCart x = withActs(acts);
                Check.due("of " + acts + " ACTS", x.pose(6), Math.min(acts, 60));
            }
        });
    }

    private static void astray() {
        Check.sentence("15", ", 8 units by whose end the CART was in a BLOCKED cell or beyond the FLOOR.", () -> {
            CordCart x = new CordCart();
            x.start(1, 0, 8);
            x.block(0, 0);
            Tell.wheels(x, Tell.FORTH, 3);
            Tell.cord(x, Tell.DRUM, Tell.SLACK, 5);
            x.show();
            // Cell 0 is BLOCKED, then -1 and -2; there it stands for two units more.
            Check.due("blocked, then beyond", x.pose(8), 5);
            x.block(0, 0);
            Check.due("as it was then", x.pose(8), 5);
            x.show();
            Check.due("a cell that is free now", x.pose(8), 4);
            x.block(1, 0);
            x.show();
            Check.due("the START's cell isn't by a unit's end", x.pose(8), 4);
        });
        Check.sentence("15", "beyond the FLOOR", () -> {
            int[][] starts = {{30, 15, 0}, {15, 30, 4}, {1, 15, 8}, {15, 1, 12}};
            for (int[] start : starts) {
                CordCart x = new CordCart();
                x.start(start[0], start[1], start[2]);
                Tell.wheels(x, Tell.FORTH, 1);
                x.show();
                Check.due("in the last cell of DIRECTION " + start[2], x.pose(8), 0);
                Tell.wheels(x, Tell.FORTH, 2);
                x.show();
                Check.due("beyond it", x.pose(8), 1);
                Tell.wheels(x, Tell.FORTH, 2, Tell.BACK, 1);
                x.show();
                Check.due("and back", x.pose(8), 1);
            }
        });
        Check.sentence("15", "units by whose end", () -> {
            CordCart x = new CordCart();
            x.block(1, 0);
            Tell.wheels(x, Tell.FORTH, 1);
            Tell.sand(x, 9);
            x.show();
            Check.due("units of a TICK behind the end of all cords too", x.pose(8), 9);
            x.fall(4);
            x.show();
            Check.due("but none beyond FALL", x.pose(8), 4);
        });
    }

    private static void poseRefusals() {
        Check.sentence("15", "IllegalArgumentException: no such what", () -> {
            for (int what : Check.outside(0, 8)) {
                Twins.due("pose(" + what + ")", Tell::much, x -> x.pose(what), Check.ARGUMENT);
            }
        });
        Check.sentence("15", "; IllegalStateException: no SHOW is kept.", () -> {
            for (int what = 0; what <= 8; what++) {
                CordCart x = new CordCart();
                int part = what;
                Check.due("pose(" + what + ") of a new one", () -> x.pose(part), Check.STATE);
                x.wind(0, Tell.GAP, 1, 0);
                x.show();
                Check.due("pose(" + what + ") behind a refused show()", () -> x.pose(part), Check.STATE);
            }
        });
    }
}
