/** Short ways to tell an object what a test needs. */
final class Tell {
    static final int FORTH = 0, BACK = 1, SLACK = 2, GAP = 3;
    static final int LEFT = 0, RIGHT = 1, DRUM = 2;

    private Tell() {
    }

    /** A cord told as kind, length, kind, length .. in the stead of the axle's own. */
    static void cord(CordCart x, int axle, int... cord) {
        x.unwind(axle);
        for (int i = 0; i < cord.length / 2; i++) {
            x.wind(axle, cord[2 * i], cord[2 * i + 1], 0);
        }
    }

    /** The same for both wheels. */
    static void wheels(CordCart x, int... cord) {
        cord(x, LEFT, cord);
        cord(x, RIGHT, cord);
    }

    static void full(CordCart x, int axle, int kind, int length, int worn) {
        for (int i = 0; i < 40; i++) {
            x.wind(axle, kind, length, worn);
        }
    }

    static void row(CordCart x, int d, int sort, long... row) {
        x.tape(d, sort, row.length);
        for (int i = 0; i < row.length; i++) {
            x.put(d, i, row[i]);
        }
    }

    /** Lanes of cells with walls along them; each is told by its corners: x, y, x, y .. */
    static void lanes(CordCart x, int[]... lanes) {
        boolean[][] isOpen = new boolean[34][34];
        for (int[] lane : lanes) {
            for (int i = 0; i + 3 < lane.length; i += 2) {
                for (int cx = Math.min(lane[i], lane[i + 2]); cx <= Math.max(lane[i], lane[i + 2]); cx++) {
                    for (int cy = Math.min(lane[i + 1], lane[i + 3]); cy <= Math.max(lane[i + 1], lane[i + 3]); cy++) {
                        isOpen[cx + 1][cy + 1] = true;
                    }
                }
            }
        }
        for (int cx = 1; cx <= 32; cx++) {
            for (int cy = 1; cy <= 32; cy++) {
                boolean isBeside = isOpen[cx - 1][cy] || isOpen[cx + 1][cy] || isOpen[cx][cy - 1] || isOpen[cx][cy + 1];
                if (isBeside && !isOpen[cx][cy]) {
                    x.block(cx - 1, cy - 1);
                }
            }
        }
    }

    /** The corners of a stair from 0, 0, first along x, with so many steps of one cell. */
    static int[] stair(int steps) {
        int[] corners = new int[2 * steps + 2];
        for (int i = 1; i <= steps; i++) {
            corners[2 * i] = (i + 1) / 2;
            corners[2 * i + 1] = i / 2;
        }
        return corners;
    }

    /** The row stays on TAPE 0. */
    static int sand(CordCart x, long... row) {
        row(x, 0, 1, row);
        return x.sand(0, row.length);
    }

    /** Something of everything; TAPE 3 holds nothing, TAPE 0 has bytes, 1 shorts, 2 ints, 4 longs, 5 a CART. */
    static void much(CordCart x) {
        x.start(4, 4, 4);
        x.block(9, 9);
        x.block(31, 0);
        x.hard(3);
        x.peg(2, 5);
        x.peg(-3, 6);
        x.wind(LEFT, FORTH, 3, 1);
        x.wind(LEFT, FORTH, 4, 0);
        x.wind(RIGHT, FORTH, 5, 1);
        x.wind(RIGHT, BACK, 2, 1);
        x.wind(RIGHT, SLACK, 2, 0);
        x.wind(DRUM, FORTH, 3, 0);
        x.wind(DRUM, BACK, 9, 1);
        sand(x, 2, 0, 5);
        x.hold(4);
        x.fall(1500);
        x.show();
        x.wish(0, 6, 6);
        x.wish(2, 7, 0);
        x.wish(3, 3, 0);
        x.spot(2, 4, 6);
        x.spot(3000, 4, 8);
        x.keep(5);
        row(x, 1, 2, 300, -300);
        row(x, 2, 3, 70000, -70000, 7);
        row(x, 4, 4, 1L << 40, -1, 9, 8);
        x.wind(DRUM, SLACK, 1, 0);
    }

    /** The same, but for two SEGMENTS more that are UNKNOWN. */
    static void gaps(CordCart x) {
        much(x);
        x.wind(LEFT, GAP, 2, 0);
        x.wind(DRUM, GAP, 6, 1);
    }

    /** The same with 7 UNKNOWN SEGMENTS, one more than FILLINGS are asked for. */
    static void manyGaps(CordCart x) {
        gaps(x);
        for (int i = 0; i < 5; i++) {
            x.wind(RIGHT, GAP, 1, 0);
        }
    }
}
