/** Term III, and promises 19 to 22 and 32. */
final class WishSentences {
    private WishSentences() {
    }

    static void hold() {
        wish();
        wishRefusals();
        wishless();
        parts();
        madeFrom();
        moves();
        goes();
        firstMoves();
        floorsEdge();
        faces();
        slackCords();
        longSegments();
        way();
        wayRefusals();
        make();
        makeUnableBlocked();
        makeLost();
        makeFull();
        makeSpent();
        makeOrder();
        reads();
        readsRefusals();
    }

    /** A cord is told as kind, length, kind, length .. */
    private static void dueCord(String when, CordCart x, int axle, int... cord) {
        for (int i = 0; i < cord.length / 2; i++) {
            Check.due(when + ": KIND of " + i + " on " + axle, x.segment(axle, i, 0), cord[2 * i]);
            Check.due(when + ": length of " + i + " on " + axle, x.segment(axle, i, 1), cord[2 * i + 1]);
            Check.due(when + ": worn of " + i + " on " + axle, x.segment(axle, i, 2), 0);
        }
        Check.due(when + ": no more on " + axle, x.segment(axle, cord.length / 2, 0), -1);
    }

    /**
     * The windings of moves that are told by letters: A AHEAD, S ASTERN, L LEFT, R RIGHT, each with
     * its units; - is a unit of REST and + one of DO.
     */
    private static void dueMoves(CordCart x, int d, String moves) {
        int units = 0;
        int[][] kinds = new int[3][4000];
        for (int i = 0; i < moves.length(); i++) {
            int move = "ASLR-+".indexOf(moves.charAt(i));
            int[] kindOf = new int[][] {{0, 0, 2}, {1, 1, 2}, {1, 0, 2}, {0, 1, 2}, {2, 2, 2}, {2, 2, 0}}[move];
            int more = move == 2 || move == 3 ? 4 * d : 1;
            for (int unit = 0; unit < more; unit++) {
                for (int axle = 0; axle < 3; axle++) {
                    kinds[axle][units] = kindOf[axle];
                }
                units++;
            }
        }
        Check.due(moves + ": make()", x.make(), units);
        for (int axle = 0; axle < 3; axle++) {
            int place = 0;
            for (int unit = 0; unit < units; place++) {
                int next = unit;
                while (next < units && kinds[axle][next] == kinds[axle][unit]) {
                    next++;
                }
                Check.due(moves + ": KIND of " + place + " on " + axle, x.segment(axle, place, 0), kinds[axle][unit]);
                Check.due(moves + ": length of " + place + " on " + axle, x.segment(axle, place, 1), next - unit);
                unit = next;
            }
            Check.due(moves + ": no more on " + axle, x.segment(axle, place, 0), -1);
        }
    }

    /** A WISH of one GO, from a START; the cart must come there, and never astray. */
    private static void dueGo(CordCart x, int[] from, int tox, int toy, int d, String moves) {
        x.hard(d);
        x.start(from[0], from[1], 4 * from[2]);
        x.wishless();
        x.wish(0, tox, toy);
        x.fall(4000);
        dueMoves(x, d, moves);
        x.show();
        Check.due(moves + ": x", x.pose(0), 1000 * tox + 500);
        Check.due(moves + ": y", x.pose(1), 1000 * toy + 500);
        Check.due(moves + ": PHASE", x.pose(3), 0);
        Check.due(moves + ": astray", x.pose(8), 0);
    }

    private static void wish() {
        Check.sentence("III", "A WISH has up to 20 parts", () -> {
            CordCart x = new CordCart();
            for (int i = 1; i <= 20; i++) {
                Check.due("part " + i, x.wish(2, i, 0), i);
            }
            Check.due("a 21st", x.wish(2, 21, 0), -2);
            Check.due("count(3)", x.count(3), 20);
            Check.due("all of them are made", x.make(), 210);
            Check.due("wishless()", x.wishless(), 20);
            Check.due("room again", x.wish(2, 1, 0), 1);
        });
        String kinds = ": 0 GO x y: to a cell; 1 REST n (1 .. 99); 2 DO n: the drum FORTH n (1 .. 99);"
            + " 3 FACE q: to DIRECTION 4 q (q 0 .. 3).";
        Check.sentence("III", kinds, () -> {
            CordCart x = new CordCart();
            int[][] right = {{0, 0, 0}, {0, 31, 0}, {0, 0, 31}, {0, 31, 31}, {1, 1, 0}, {1, 99, 0}, {2, 1, 0}, {2, 99, 0},
                {3, 0, 0}, {3, 1, 0}, {3, 2, 0}, {3, 3, 0}};
            for (int i = 0; i < right.length; i++) {
                Check.due("wish(" + right[i][0] + ", " + right[i][1] + ", " + right[i][2] + ")",
                    x.wish(right[i][0], right[i][1], right[i][2]), i + 1);
            }
        });
        Check.sentence("19", "The WISH gets a part at its end: how many it has.", () -> {
            CordCart x = new CordCart();
            Check.due("the first", x.wish(0, 3, 0), 1);
            Check.due("the second", x.wish(2, 2, 0), 2);
            Check.due("the third", x.wish(0, 1, 0), 3);
            Check.due("the fourth", x.wish(1, 2, 0), 4);
            dueMoves(x, 2, "AAA++SS--");
            Check.due("count(3)", x.count(3), 4);
        });
        Check.sentence("19", "The WISH gets a part at its end", () -> {
            CordCart x = new CordCart();
            x.block(5, 5);
            Check.due("a GO to a cell that is BLOCKED is a part", x.wish(0, 5, 5), 1);
        });
    }

    private static void wishRefusals() {
        Check.sentence("19", "NONE: no such kind", () -> {
            for (int kind : Check.outside(0, 3)) {
                Twins.due("wish(" + kind + ", 1, 0)", Tell::much, x -> x.wish(kind, 1, 0), -1);
            }
        });
        Check.sentence("19", "; a, b are not as said (GO: a cell", () -> {
            for (int beyond : Check.outside(0, 31)) {
                Twins.due("wish(0, " + beyond + ", 0)", Tell::much, x -> x.wish(0, beyond, 0), -1);
                Twins.due("wish(0, 31, " + beyond + ")", Tell::much, x -> x.wish(0, 31, beyond), -1);
            }
        });
        Check.sentence("19", "; a, b are not as said", () -> {
            for (int n : Check.outside(1, 99)) {
                Twins.due("wish(1, " + n + ", 0)", Tell::much, x -> x.wish(1, n, 0), -1);
                Twins.due("wish(2, " + n + ", 0)", Tell::much, x -> x.wish(2, n, 0), -1);
            }
            for (int q : Check.outside(0, 3)) {
                Twins.due("wish(3, " + q + ", 0)", Tell::much, x -> x.wish(3, q, 0), -1);
            }
        });
        Check.sentence("19", "; others: b 0)", () -> {
            for (int kind = 1; kind <= 3; kind++) {
                int of = kind;
                for (int b : Check.outside(0, 0)) {
                    Twins.due("wish(" + kind + ", 1, " + b + ")", Tell::much, x -> x.wish(of, 1, b), -1);
                }
            }
        });
        Check.sentence("19", "; FULL: 20.", () -> {
            for (int kind = 0; kind <= 3; kind++) {
                int of = kind;
                Twins.due("wish(" + kind + ", 1, 0) of 20", WishSentences::twentyParts, x -> x.wish(of, 1, 0), -2);
            }
        });
        Check.sentence("VI", "Of several refusals the one that is named first in a method's words is answered.", () -> {
            CordCart x = new CordCart();
            twentyParts(x);
            Check.due("no such kind, and 20", x.wish(4, 1, 0), -1);
            Check.due("no such cell, and 20", x.wish(0, 32, 0), -1);
            Check.due("no such n, and 20", x.wish(1, 0, 0), -1);
            Check.due("b not 0, and 20", x.wish(3, 1, 1), -1);
            Check.due("20 alone", x.wish(3, 1, 0), -2);
        });
    }

    private static void twentyParts(CordCart x) {
        for (int i = 1; i <= 20; i++) {
            x.wish(1 + i % 2, i, 0);
        }
    }

    private static void wishless() {
        Check.sentence("20", "The WISH loses its parts: how many it had.", () -> {
            CordCart x = new CordCart();
            Check.due("wishless() of none", x.wishless(), 0);
            x.wish(1, 9, 0);
            x.wish(2, 9, 0);
            Check.due("wishless() of two", x.wishless(), 2);
            Check.due("wishless() again", x.wishless(), 0);
            Check.due("count(3)", x.count(3), 0);
            Check.due("make()", x.make(), 0);
            twentyParts(x);
            Check.due("wishless() of 20", x.wishless(), 20);
            Check.due("the first part anew", x.wish(1, 1, 0), 1);
            Check.due("make() of it alone", x.make(), 1);
        });
    }

    private static void parts() {
        Check.sentence("III", "1 REST n (1 .. 99); 2 DO n: the drum FORTH n (1 .. 99);", () -> {
            for (int n : new int[] {1, 99}) {
                CordCart x = new CordCart();
                x.wish(1, n, 0);
                Check.due("REST " + n, x.make(), n);
                for (int axle = 0; axle < 3; axle++) {
                    dueCord("REST " + n, x, axle, Tell.SLACK, n);
                }
                x.wishless();
                x.wish(2, n, 0);
                Check.due("DO " + n, x.make(), n);
                dueCord("DO " + n, x, 0, Tell.SLACK, n);
                dueCord("DO " + n, x, 1, Tell.SLACK, n);
                dueCord("DO " + n, x, 2, Tell.FORTH, n);
                x.show();
                Check.due("STEP", x.pose(4), n);
            }
        });
    }

    private static void madeFrom() {
        Check.sentence("III", "It is MADE from the START (whose DIRECTION must be 0, 4, 8 or 12)", () -> {
            String[] moves = {"AAA", "LSSS", "SSS", "LAAA"};
            for (int direction = 0; direction < 16; direction++) {
                CordCart x = new CordCart();
                x.start(5, 5, direction);
                x.wish(0, 8, 5);
                if (direction % 4 == 0) {
                    dueMoves(x, 2, moves[direction / 4]);
                } else {
                    Check.due("make() from DIRECTION " + direction, x.make(), -5);
                }
            }
        });
        Check.sentence("III", ", by moves that always have a DIRECTION of these, and PHASE 0:", () -> {
            for (int d = 1; d <= 8; d++) {
                CordCart x = new CordCart();
                x.fall(4000);
                x.hard(d);
                x.wish(0, 3, 3);
                x.wish(3, 3, 0);
                x.wish(0, 0, 3);
                x.make();
                x.show();
                Check.due("x", x.pose(0), 500);
                Check.due("y", x.pose(1), 3500);
                Check.due("DIRECTION", x.pose(2) % 4, 0);
                Check.due("PHASE", x.pose(3), 0);
            }
        });
    }

    private static void moves() {
        String straight = "AHEAD a cell (1 unit: both wheels FORTH), ASTERN a cell (1 unit: both BACK),";
        Check.sentence("III", straight, () -> {
            for (int q = 0; q < 4; q++) {
                CordCart x = new CordCart();
                int dx = q == 0 ? 1 : q == 2 ? -1 : 0;
                int dy = q == 1 ? 1 : q == 3 ? -1 : 0;
                dueGo(x, new int[] {9, 9, q}, 9 + dx, 9 + dy, 8, "A");
                dueGo(x, new int[] {9, 9, q}, 9 - dx, 9 - dy, 8, "S");
                dueGo(x, new int[] {9, 9, q}, 9 + 5 * dx, 9 + 5 * dy, 1, "AAAAA");
                dueGo(x, new int[] {9, 9, q}, 9 - 5 * dx, 9 - 5 * dy, 1, "SSSSS");
            }
        });
        String turns = "LEFT (4 D units: left BACK, right FORTH; DIRECTION 4 more),"
            + " RIGHT (4 D units: left FORTH, right BACK; 4 less).";
        Check.sentence("III", turns, () -> {
            for (int d = 1; d <= 8; d++) {
                for (int q = 0; q < 4; q++) {
                    CordCart x = new CordCart();
                    x.hard(d);
                    x.start(5, 5, 4 * q);
                    x.wish(3, (q + 1) % 4, 0);
                    Check.due("LEFT", x.make(), 4 * d);
                    dueCord("LEFT", x, 0, Tell.BACK, 4 * d);
                    dueCord("LEFT", x, 1, Tell.FORTH, 4 * d);
                    x.show();
                    Check.due("DIRECTION 4 more", x.pose(2), (4 * q + 4) % 16);
                    x.wishless();
                    x.wish(3, (q + 3) % 4, 0);
                    Check.due("RIGHT", x.make(), 4 * d);
                    dueCord("RIGHT", x, 0, Tell.FORTH, 4 * d);
                    dueCord("RIGHT", x, 1, Tell.BACK, 4 * d);
                    x.show();
                    Check.due("4 less", x.pose(2), (4 * q + 12) % 16);
                }
            }
        });
    }

    private static void goes() {
        Check.sentence("III", "A GO takes moves with the least units", () -> {
            CordCart x = new CordCart();
            // To 10, 10 by a stair with 3 turns and 20 steps, or with 2 turns and 38 steps.
            Tell.lanes(x, new int[] {0, 0, 19, 0, 19, 10, 10, 10}, new int[] {5, 0, 5, 5, 10, 5, 10, 10});
            dueGo(x, new int[] {0, 0, 0}, 10, 10, 4, "AAAAALAAAAALSSSSSLSSSSS");
            dueGo(x, new int[] {0, 0, 0}, 10, 10, 5, "AAAAAAAAAAAAAAAAAAALAAAAAAAAAALAAAAAAAAA");
        });
        Check.sentence("III", "A GO takes moves with the least units", () -> {
            CordCart x = new CordCart();
            dueGo(x, new int[] {5, 5, 0}, 7, 8, 2, "AALAAA");
            dueGo(x, new int[] {5, 5, 0}, 3, 8, 2, "SSLAAA");
            dueGo(x, new int[] {5, 5, 0}, 3, 2, 2, "SSLSSS");
            dueGo(x, new int[] {5, 5, 0}, 7, 2, 2, "AALSSS");
            dueGo(x, new int[] {5, 5, 1}, 7, 8, 2, "AAALSS");
            dueGo(x, new int[] {5, 5, 3}, 7, 8, 2, "SSSLAA");
        });
        Check.sentence("III", "that end in the cell with any DIRECTION", () -> {
            CordCart x = new CordCart();
            dueGo(x, new int[] {5, 5, 2}, 5, 5, 2, "");
            dueGo(x, new int[] {5, 5, 0}, 5, 7, 2, "LAA");
            Check.due("it ends with DIRECTION 4", x.pose(2), 4);
            dueGo(x, new int[] {5, 5, 2}, 7, 5, 2, "SS");
            Check.due("it ends with DIRECTION 8", x.pose(2), 8);
        });
        Check.sentence("III", ", never in a cell that is BLOCKED", () -> {
            CordCart x = new CordCart();
            x.block(6, 5);
            dueGo(x, new int[] {5, 5, 0}, 7, 5, 2, "LALSSLA");
            x.block(5, 6);
            x.block(6, 6);
            dueGo(x, new int[] {5, 5, 0}, 7, 5, 2, "LSLSSLS");
            dueGo(x, new int[] {7, 5, 0}, 5, 5, 2, "LSLAALS");
            x.block(7, 5);
            Check.due("to a cell that is BLOCKED", x.way(5, 5, 0, 7, 5), -5);
        });
    }

    private static void firstMoves() {
        String order = "; of these the moves that are first, move by move, in the order AHEAD, ASTERN, LEFT, RIGHT.";
        Check.sentence("III", order, () -> {
            CordCart x = new CordCart();
            x.block(5, 6);
            dueGo(x, new int[] {5, 5, 0}, 5, 8, 2, "ALAAALA");
            dueGo(x, new int[] {5, 5, 2}, 5, 8, 2, "ALSSSLA");
            x.block(6, 5);
            dueGo(x, new int[] {5, 5, 0}, 5, 8, 2, "SLAAALS");
        });
        Check.sentence("III", order, () -> {
            CordCart x = new CordCart();
            // 8, 8 can be come to along x alone: AHEAD as long as can be.
            x.block(8, 7);
            x.block(8, 9);
            dueGo(x, new int[] {5, 5, 0}, 8, 8, 2, "AALAAALS");
            dueGo(x, new int[] {5, 5, 2}, 8, 8, 2, "SSLSSSLA");
            x.block(6, 5);
            dueGo(x, new int[] {5, 5, 0}, 8, 8, 2, "LAAALSSS");
        });
        Check.sentence("III", order, () -> {
            CordCart x = new CordCart();
            // LEFT is ahead of RIGHT, so what lies to the right is come to ASTERN.
            dueGo(x, new int[] {5, 5, 0}, 5, 3, 2, "LSS");
            dueGo(x, new int[] {5, 5, 1}, 7, 5, 2, "LSS");
            dueGo(x, new int[] {5, 5, 2}, 5, 7, 2, "LSS");
            dueGo(x, new int[] {5, 5, 3}, 3, 5, 2, "LSS");
        });
        Check.sentence("III", order, () -> {
            CordCart x = new CordCart();
            x.fall(4000);
            x.start(5, 5, 0);
            x.wish(0, 5, 4);
            x.wish(2, 3, 0);
            x.wish(0, 5, 4);
            x.wish(0, 7, 4);
            x.wish(0, 7, 7);
            // Each GO begins as the one before it ended: DIRECTION 4, then 8.
            dueMoves(x, 2, "LS+++LSSLSSS");
        });
    }

    private static void floorsEdge() {
        Check.sentence("III", "or beyond the FLOOR", () -> {
            int[][] edges = {{1, 0, 0}, {30, 31, 0}, {0, 1, 1}, {31, 30, 1}};
            String[] moves = {"LALSSLA", "LSLSSLS", "LSLSSLS", "LALSSLA"};
            for (int i = 0; i < edges.length; i++) {
                CordCart x = new CordCart();
                int bx = edges[i][0];
                int by = edges[i][1];
                int q = edges[i][2];
                x.block(bx, by);
                // From one side of the BLOCKED cell to its other one, along the edge.
                dueGo(x, new int[] {bx - (1 - q), by - q, q}, bx + 1 - q, by + q, 2, moves[i]);
            }
        });
        Check.sentence("III", "or beyond the FLOOR", () -> {
            CordCart x = new CordCart();
            for (int cy = 0; cy < 32; cy++) {
                x.block(4, cy);
            }
            Check.due("a wall from edge to edge", x.way(0, 0, 0, 8, 0), -5);
            x.block(4, 31);
            Check.due("but for its last cell", x.way(0, 0, 0, 8, 0), 8 + 62 + 3 * 8);
            x.block(4, 31);
            x.block(4, 0);
            Check.due("but for its first cell", x.way(0, 31, 0, 8, 31), 8 + 62 + 3 * 8);
            x.block(4, 0);
            for (int cx = 0; cx < 32; cx++) {
                x.block(cx, 9);
            }
            Check.due("a wall across", x.way(31, 0, 0, 31, 31), -5);
            x.block(31, 9);
            Check.due("but for its last cell", x.way(31, 0, 0, 31, 31), 31 + 8);
        });
    }

    private static void faces() {
        Check.sentence("III", "A FACE takes the fewest turns (of two that are like, LEFT both times).", () -> {
            String[] moves = {"", "L", "LL", "R"};
            for (int from = 0; from < 4; from++) {
                for (int to = 0; to < 4; to++) {
                    CordCart x = new CordCart();
                    x.hard(5);
                    x.start(2, 2, 4 * from);
                    x.wish(3, to, 0);
                    dueMoves(x, 5, moves[(to - from + 4) % 4]);
                    x.show();
                    Check.due("DIRECTION", x.pose(2), 4 * to);
                }
            }
        });
        Check.sentence("III", "3 FACE q: to DIRECTION 4 q (q 0 .. 3).", () -> {
            CordCart x = new CordCart();
            x.wish(3, 3, 0);
            x.wish(0, 0, 2);
            x.wish(3, 1, 0);
            x.wish(0, 0, 3);
            x.wish(3, 1, 0);
            dueMoves(x, 2, "RSSLLA");
        });
    }

    private static void slackCords() {
        String rule = "While wheels move the drum has SLACK, while it moves the wheels have SLACK; by REST all three.";
        Check.sentence("III", rule, () -> {
            CordCart x = new CordCart();
            x.wish(0, 2, 0);
            x.wish(2, 3, 0);
            x.wish(3, 1, 0);
            x.wish(1, 4, 0);
            x.wish(0, 2, 1);
            Check.due("make()", x.make(), 2 + 3 + 8 + 4 + 1);
            dueCord("left", x, 0, Tell.FORTH, 2, Tell.SLACK, 3, Tell.BACK, 8, Tell.SLACK, 4, Tell.FORTH, 1);
            dueCord("right", x, 1, Tell.FORTH, 2, Tell.SLACK, 3, Tell.FORTH, 8, Tell.SLACK, 4, Tell.FORTH, 1);
            dueCord("drum", x, 2, Tell.SLACK, 2, Tell.FORTH, 3, Tell.SLACK, 13);
            for (int axle = 0; axle < 3; axle++) {
                Check.due("all cords are as long", x.cord(axle), 18);
            }
        });
    }

    private static void longSegments() {
        Check.sentence("III", "Units of one KIND that follow one another on an AXLE are one SEGMENT", () -> {
            CordCart x = new CordCart();
            x.wish(1, 3, 0);
            x.wish(2, 5, 0);
            x.wish(2, 1, 0);
            x.wish(1, 2, 0);
            Check.due("make()", x.make(), 11);
            dueCord("left", x, 0, Tell.SLACK, 11);
            dueCord("right", x, 1, Tell.SLACK, 11);
            dueCord("drum", x, 2, Tell.SLACK, 3, Tell.FORTH, 6, Tell.SLACK, 2);
            x.wishless();
            x.wish(0, 2, 0);
            x.wish(0, 2, 3);
            x.wish(3, 0, 0);
            Check.due("make() of moves", x.make(), 2 + 8 + 3 + 8);
            // AA LAAA R: the right wheel goes FORTH all the way to the last turn.
            dueCord("left of moves", x, 0, Tell.FORTH, 2, Tell.BACK, 8, Tell.FORTH, 11);
            dueCord("right of moves", x, 1, Tell.FORTH, 13, Tell.BACK, 8);
        });
        Check.sentence("III", "(those above 200: SEGMENTS of 200, and the rest)", () -> {
            int[] lengths = {199, 200, 201, 399, 400, 401, 1980};
            for (int length : lengths) {
                CordCart x = new CordCart();
                for (int rest = length; rest > 0; rest -= 99) {
                    x.wish(2, Math.min(rest, 99), 0);
                }
                Check.due("DO " + length, x.make(), length);
                int whole = length / 200;
                for (int i = 0; i < whole; i++) {
                    Check.due("SEGMENT " + i + " of " + length, x.segment(2, i, 1), 200);
                    Check.due("its KIND", x.segment(2, i, 0), Tell.FORTH);
                }
                Check.due("the rest of " + length, x.segment(2, whole, 1), length % 200 == 0 ? -1 : length % 200);
                Check.due("no more of " + length, x.segment(2, whole + 1, 1), -1);
                Check.due("as many on a wheel", x.unwind(0), (length + 199) / 200);
                Check.due("in all", x.cord(2), length);
            }
        });
        Check.sentence("III", "(those above 200: SEGMENTS of 200, and the rest)", () -> {
            CordCart x = new CordCart();
            x.hard(8);
            for (int i = 0; i < 8; i++) {
                x.wish(3, (i + 1) % 4, 0);
            }
            Check.due("eight LEFTs of 32", x.make(), 256);
            dueCord("eight LEFTs", x, 0, Tell.BACK, 200, Tell.BACK, 56);
            dueCord("eight LEFTs", x, 1, Tell.FORTH, 200, Tell.FORTH, 56);
            dueCord("eight LEFTs", x, 2, Tell.SLACK, 200, Tell.SLACK, 56);
        });
        Check.sentence("III", ", not WORN.", () -> {
            CordCart x = new CordCart();
            for (int axle = 0; axle < 3; axle++) {
                Tell.full(x, axle, Tell.FORTH, 3, 1);
            }
            x.wish(2, 99, 0);
            x.wish(2, 99, 0);
            x.wish(2, 99, 0);
            x.wish(0, 3, 0);
            x.make();
            for (int axle = 0; axle < 3; axle++) {
                for (int i = 0; i < 3; i++) {
                    Check.due("SEGMENT " + i + " of " + axle, x.segment(axle, i, 2), 0);
                }
            }
        });
    }

    private static void way() {
        Check.sentence("21", "The least units of moves by which a GO from a cell with DIRECTION 4 q comes to a cell.", () -> {
            CordCart x = new CordCart();
            for (int d = 1; d <= 8; d++) {
                x.hard(d);
                for (int q = 0; q < 4; q++) {
                    Check.due("to itself", x.way(5, 5, q, 5, 5), 0);
                    Check.due("along x", x.way(5, 5, q, 9, 5), q % 2 == 0 ? 4 : 4 + 4 * d);
                    Check.due("back along x", x.way(9, 5, q, 5, 5), q % 2 == 0 ? 4 : 4 + 4 * d);
                    Check.due("along y", x.way(5, 5, q, 5, 9), q % 2 == 1 ? 4 : 4 + 4 * d);
                    Check.due("back along y", x.way(5, 9, q, 5, 5), q % 2 == 1 ? 4 : 4 + 4 * d);
                    Check.due("from corner to corner", x.way(0, 0, q, 31, 31), 62 + 4 * d);
                    Check.due("from corner to corner, across", x.way(31, 0, q, 0, 31), 62 + 4 * d);
                }
            }
        });
        Check.sentence("21", "The least units of moves", () -> {
            CordCart x = new CordCart();
            Tell.lanes(x, new int[] {0, 0, 19, 0, 19, 10, 10, 10}, new int[] {5, 0, 5, 5, 10, 5, 10, 10});
            for (int d = 1; d <= 8; d++) {
                x.hard(d);
                Check.due("a stair, or two long turns", x.way(0, 0, 0, 10, 10), d < 5 ? 20 + 12 * d : 38 + 8 * d);
                Check.due("a turn more", x.way(0, 0, 1, 10, 10), 4 * d + (d < 5 ? 20 + 12 * d : 38 + 8 * d));
                Check.due("back, from a side", x.way(10, 10, 3, 0, 0), 20 + 12 * d);
                Check.due("back, from the other", x.way(10, 10, 2, 0, 0), d < 3 ? 20 + 16 * d : 38 + 8 * d);
            }
        });
        Check.sentence("21", "The least units of moves", () -> {
            CordCart x = new CordCart();
            // Eleven rows with walls between, open at their far and near ends by turns.
            for (int cy = 1; cy < 20; cy += 2) {
                for (int cx = 0; cx < 32; cx++) {
                    if (cx != (cy % 4 == 1 ? 31 : 0)) {
                        x.block(cx, cy);
                    }
                }
            }
            x.hard(1);
            Check.due("to the last row's end", x.way(0, 0, 0, 31, 20), 11 * 31 + 10 * 2 + 20 * 4);
            x.wish(0, 31, 20);
            Check.due("make()", x.make(), 11 * 31 + 10 * 2 + 20 * 4);
            x.show();
            Check.due("x", x.pose(0), 31500);
            Check.due("y", x.pose(1), 20500);
            Check.due("never astray", x.pose(8), 0);
        });
        Twins.due("way(0, 0, 0, 6, 0)", Tell::much, x -> x.way(0, 0, 0, 6, 0), 6);
    }

    private static void wayRefusals() {
        Check.sentence("21", "NONE: no such cell", () -> {
            for (int beyond : Check.outside(0, 31)) {
                Twins.due("way(" + beyond + ", 0, 0, 0, 0)", Tell::much, x -> x.way(beyond, 0, 0, 0, 0), -1);
                Twins.due("way(0, " + beyond + ", 0, 0, 0)", Tell::much, x -> x.way(0, beyond, 0, 0, 0), -1);
                Twins.due("way(0, 0, 0, " + beyond + ", 0)", Tell::much, x -> x.way(0, 0, 0, beyond, 0), -1);
                Twins.due("way(0, 0, 0, 0, " + beyond + ")", Tell::much, x -> x.way(0, 0, 0, 0, beyond), -1);
            }
        });
        Check.sentence("21", ", q", () -> {
            for (int q : Check.outside(0, 3)) {
                Twins.due("way(0, 0, " + q + ", 0, 0)", Tell::much, x -> x.way(0, 0, q, 0, 0), -1);
            }
        });
        Check.sentence("21", "; BLOCKED: the first cell is", () -> {
            Twins.due("way(9, 9, 0, 8, 9)", Tell::much, x -> x.way(9, 9, 0, 8, 9), -4);
            Twins.due("way(9, 9, 0, 9, 9)", Tell::much, x -> x.way(9, 9, 0, 9, 9), -4);
        });
        Check.sentence("21", "; UNABLE: there are none.", () -> {
            Twins.due("way(8, 9, 0, 9, 9)", Tell::much, x -> x.way(8, 9, 0, 9, 9), -5);
            CordCart x = new CordCart();
            x.block(1, 0);
            x.block(0, 1);
            Check.due("shut in", x.way(0, 0, 0, 5, 5), -5);
            Check.due("shut in, to itself", x.way(0, 0, 0, 0, 0), 0);
            Check.due("shut out", x.way(5, 5, 0, 0, 0), -5);
            x.block(1, 0);
            Check.due("open again", x.way(0, 0, 0, 1, 0), 1);
        });
        Check.sentence("VI", "Of several refusals the one that is named first in a method's words is answered.", () -> {
            CordCart x = new CordCart();
            x.block(5, 5);
            x.block(7, 7);
            Check.due("no such q, and BLOCKED", x.way(5, 5, 4, 0, 0), -1);
            Check.due("no such cell to go to, and BLOCKED", x.way(5, 5, 0, 0, 32), -1);
            Check.due("BLOCKED, and none to a cell that is BLOCKED too", x.way(5, 5, 0, 7, 7), -4);
            Check.due("BLOCKED, and none to itself", x.way(5, 5, 0, 5, 5), -4);
            Check.due("none alone", x.way(0, 0, 0, 7, 7), -5);
        });
    }

    private static void make() {
        Check.sentence("22", "The WISH is MADE: the three cords become its windings: the units it has in all.", () -> {
            CordCart x = new CordCart();
            for (int axle = 0; axle < 3; axle++) {
                Tell.full(x, axle, Tell.GAP, 9, 1);
            }
            Check.due("make() of no parts", x.make(), 0);
            Check.due("count(0)", x.count(0), 0);
            x.wind(0, Tell.GAP, 5, 1);
            x.wish(2, 7, 0);
            Check.due("make()", x.make(), 7);
            dueCord("made", x, 0, Tell.SLACK, 7);
            dueCord("made", x, 1, Tell.SLACK, 7);
            dueCord("made", x, 2, Tell.FORTH, 7);
            Check.due("make() again", x.make(), 7);
            Check.due("nothing more is wound", x.count(0), 3);
            Check.due("the WISH stays", x.count(3), 1);
        });
        Check.sentence("22", "the three cords become its windings", () -> {
            CordCart x = new CordCart();
            Tell.much(x);
            Check.due("make()", x.make(), 2 + 12 + 2 + 7 + 12);
            Check.due("D stays", x.hard(3), 3);
            Check.due("PEGS stay", x.count(1), 2);
            Check.due("SPOTS stay", x.count(4), 2);
            Check.due("START stays", x.where(0, 0), 4500);
            Check.due("the kept cart stays", x.back(5), 7);
        });
    }

    private static void makeUnableBlocked() {
        Check.sentence("22", "UNABLE: the START's DIRECTION isn't as in III", () -> {
            for (int direction : new int[] {1, 2, 3, 5, 6, 7, 9, 10, 11, 13, 14, 15}) {
                Twins.due("make() from DIRECTION " + direction, x -> {
                    Tell.much(x);
                    x.start(4, 4, direction);
                }, CordCart::make, -5);
            }
            CordCart y = new CordCart();
            y.start(0, 0, 15);
            Check.due("of no parts too", y.make(), -5);
        });
        Check.sentence("22", "; BLOCKED: the START's cell is", () -> {
            Twins.due("make() from a cell that is BLOCKED", x -> {
                Tell.much(x);
                x.start(9, 9, 4);
            }, CordCart::make, -4);
            CordCart y = new CordCart();
            y.block(0, 0);
            Check.due("of no parts too", y.make(), -4);
            y.block(0, 0);
            Check.due("free again", y.make(), 0);
        });
    }

    private static void makeLost() {
        Check.sentence("22", "; a GO can't: -100 less the part's number", () -> {
            for (int number = 0; number < 20; number++) {
                CordCart x = new CordCart();
                x.block(9, 9);
                x.wind(0, Tell.BACK, 7, 1);
                for (int i = 0; i < 20; i++) {
                    x.wish(i == number ? 0 : 2, i == number ? 9 : 1, i == number ? 9 : 0);
                }
                Check.due("part " + number + " can't", x.make(), -100 - number);
                Check.due("the cords stay", x.cord(0), 7);
                Check.due("all of them", x.count(0), 1);
            }
        });
        Check.sentence("22", "; a GO can't: -100 less the part's number", () -> {
            Twins.due("make() whose third part can't", x -> {
                Tell.much(x);
                x.wishless();
                x.wish(1, 5, 0);
                x.wish(0, 4, 5);
                x.wish(0, 9, 9);
                x.wish(0, 31, 0);
            }, CordCart::make, -102);
            CordCart y = new CordCart();
            y.block(1, 0);
            y.block(0, 1);
            y.wish(0, 0, 0);
            Check.due("to the START's own cell it can", y.make(), 0);
            y.wish(0, 31, 31);
            Check.due("shut in", y.make(), -101);
            y.start(5, 5, 0);
            Check.due("shut out", y.make(), -100);
        });
    }

    private static void makeFull() {
        Check.sentence("22", "; FULL: an AXLE would have more than 40 SEGMENTS", () -> {
            CordCart x = new CordCart();
            Tell.lanes(x, Tell.stair(44));
            x.fall(4000);
            // ALALSLSL again and again: the left wheel F 1, B 8, F 1, B 26 .., and the right one F 18, B 1, F 8, B 1 ..
            x.wish(0, 20, 20);
            Check.due("40 steps and 39 turns", x.make(), 40 + 39 * 8);
            Check.due("40 on the left wheel", x.unwind(0), 40);
            Check.due("40 on the right wheel", x.unwind(1), 40);
            Check.due("2 on the drum", x.unwind(2), 2);
            x.wishless();
            x.wish(0, 21, 20);
            Check.due("41 on the left wheel", x.make(), -2);
        });
        Check.sentence("22", "; FULL: an AXLE would have more than 40 SEGMENTS", () -> {
            CordCart x = new CordCart();
            int[] corners = Tell.stair(44);
            for (int i = 0; i < corners.length; i += 2) {
                int cx = corners[i];
                corners[i] = corners[i + 1];
                corners[i + 1] = cx;
            }
            Tell.lanes(x, corners);
            x.start(0, 0, 4);
            // ALSLSLAL again and again: the right wheel has the most.
            x.wish(0, 19, 20);
            Check.due("39 steps and 38 turns", x.make(), 39 + 38 * 8);
            Check.due("40 on the right wheel", x.unwind(1), 40);
            Check.due("38 on the left wheel", x.unwind(0), 38);
            x.wishless();
            x.wish(0, 20, 20);
            Check.due("41 on the right wheel alone", x.make(), -2);
        });
        Check.sentence("22", "; FULL: an AXLE would have more than 40 SEGMENTS", () -> {
            Twins.due("make() of a long stair", x -> {
                Tell.lanes(x, Tell.stair(44));
                x.wind(0, Tell.BACK, 3, 1);
                x.wind(2, Tell.FORTH, 3, 1);
                x.wish(0, 22, 22);
            }, CordCart::make, -2);
        });
    }

    private static void makeSpent() {
        Check.sentence("22", "; SPENT: more units than FALL.", () -> {
            CordCart x = new CordCart();
            Check.due("no parts", x.make(), 0);
            x.fall(0);
            Check.due("no parts, and no FALL", x.make(), 0);
            x.wish(2, 9, 0);
            x.wish(0, 3, 0);
            Check.due("no FALL", x.make(), -6);
            x.fall(11);
            Check.due("one unit more than FALL", x.make(), -6);
            x.fall(12);
            Check.due("just FALL", x.make(), 12);
            x.fall(13);
            Check.due("one unit less than FALL", x.make(), 12);
        });
        Check.sentence("22", "; SPENT: more units than FALL.", () -> {
            Twins.due("make() of more than FALL", x -> {
                Tell.much(x);
                x.fall(20);
            }, CordCart::make, -6);
        });
    }

    private static void makeOrder() {
        Check.sentence("VI", "Of several refusals the one that is named first in a method's words is answered.", () -> {
            CordCart x = new CordCart();
            Tell.lanes(x, Tell.stair(44));
            int[] due = {-5, -4, -101, -2, -6, 9};
            x.wish(0, 22, 22);
            x.wish(0, 0, 1);
            x.fall(0);
            x.start(0, 1, 1);
            dueMade("DIRECTION, BLOCKED, a GO, FULL, SPENT", x, due[0]);
            x.start(0, 1, 4);
            dueMade("BLOCKED, a GO, FULL, SPENT", x, due[1]);
            x.start(0, 0, 0);
            dueMade("a GO, FULL, SPENT", x, due[2]);
            x.wishless();
            x.wish(0, 22, 22);
            dueMade("FULL, SPENT", x, due[3]);
            x.wishless();
            x.wish(2, 9, 0);
            dueMade("SPENT", x, due[4]);
            x.fall(9);
            dueMade("none", x, due[5]);
        });
        Check.sentence("VI", "Of several refusals the one that is named first in a method's words is answered.", () -> {
            CordCart x = new CordCart();
            x.block(9, 9);
            x.block(8, 8);
            x.wish(1, 1, 0);
            x.wish(0, 9, 9);
            x.wish(0, 8, 8);
            dueMade("of two GOs the first", x, -101);
            x.fall(0);
            dueMade("a GO, and SPENT", x, -101);
        });
    }

    private static void dueMade(String when, CordCart x, int due) {
        boolean isMade = due >= 0;
        Check.due(when + ": reads()", x.reads(), isMade ? 0 : due);
        Check.due(when + ": make()", x.make(), due);
        Check.due(when + ": reads() behind it", x.reads(), isMade ? 1 : due);
    }

    private static void reads() {
        Check.sentence("32", "Whether the cords are those that the WISH makes now: 1, else 0", () -> {
            CordCart x = new CordCart();
            Check.due("bare cords, no WISH", x.reads(), 1);
            x.wish(0, 2, 0);
            Check.due("bare cords", x.reads(), 0);
            x.make();
            Check.due("made", x.reads(), 1);
            x.wishless();
            Check.due("no WISH", x.reads(), 0);
            x.wish(0, 2, 0);
            for (int axle = 0; axle < 3; axle++) {
                int kind = x.segment(axle, 0, 0);
                Tell.cord(x, axle);
                Check.due("a bare cord on " + axle, x.reads(), 0);
                Tell.cord(x, axle, kind, 1, kind, 1);
                Check.due("two SEGMENTS on " + axle, x.reads(), 0);
                Tell.cord(x, axle, kind, 3);
                Check.due("a longer one on " + axle, x.reads(), 0);
                Tell.cord(x, axle, kind, 1);
                Check.due("a shorter one on " + axle, x.reads(), 0);
                Tell.cord(x, axle, kind, 2, Tell.SLACK, 1);
                Check.due("one more on " + axle, x.reads(), 0);
                Tell.cord(x, axle, 1, 2);
                Check.due("another KIND on " + axle, x.reads(), 0);
                Tell.cord(x, axle, Tell.GAP, 2);
                Check.due("an UNKNOWN one on " + axle, x.reads(), 0);
                x.unwind(axle);
                x.wind(axle, kind, 2, 1);
                Check.due("a WORN one on " + axle, x.reads(), 0);
                Tell.cord(x, axle, kind, 2);
                Check.due("wound by hand on " + axle, x.reads(), 1);
            }
        });
        Check.sentence("32", "that the WISH makes now", () -> {
            CordCart x = new CordCart();
            x.wish(0, 2, 3);
            x.make();
            Check.due("made", x.reads(), 1);
            x.hard(3);
            Check.due("with another D", x.reads(), 0);
            x.hard(2);
            Check.due("with D as it was", x.reads(), 1);
            x.start(1, 0, 0);
            Check.due("from another START", x.reads(), 0);
            x.start(0, 0, 4);
            Check.due("from another DIRECTION", x.reads(), 0);
            x.start(0, 0, 0);
            x.block(2, 2);
            Check.due("with a cell BLOCKED on its way", x.reads(), 0);
            x.block(2, 2);
            x.wish(1, 1, 0);
            Check.due("with a part more", x.reads(), 0);
        });
    }

    private static void readsRefusals() {
        Check.sentence("32", "; the refusals of make().", () -> {
            CordCart x = new CordCart();
            x.start(0, 0, 2);
            Check.due("UNABLE", x.reads(), -5);
            x.start(0, 0, 0);
            x.block(0, 0);
            Check.due("BLOCKED", x.reads(), -4);
            x.start(1, 0, 0);
            x.wish(1, 5, 0);
            x.wish(0, 0, 0);
            Check.due("a GO can't", x.reads(), -101);
            x.wishless();
            x.wish(1, 5, 0);
            x.make();
            x.fall(4);
            Check.due("SPENT, though the cords are those", x.reads(), -6);
            x.fall(5);
            Check.due("just FALL", x.reads(), 1);
            CordCart y = new CordCart();
            Tell.lanes(y, Tell.stair(44));
            y.wish(0, 22, 22);
            Check.due("FULL", y.reads(), -2);
        });
        Check.sentence("32", "Nothing is changed.", () -> {
            Twins.due("reads() of other cords", Tell::much, CordCart::reads, 0);
            Twins.due("reads() of those that are made", x -> {
                Tell.much(x);
                x.make();
            }, CordCart::reads, 1);
            Twins.due("reads() with gaps", Tell::gaps, CordCart::reads, 0);
            Twins.due("reads() that is refused", x -> {
                Tell.much(x);
                x.fall(1);
            }, CordCart::reads, -6);
        });
    }
}
