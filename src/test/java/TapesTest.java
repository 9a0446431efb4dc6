/** Promises 33 to 41: tapes, and what is counted. */
public final class TapesTest {
    public static void main(String[] args) {
        tape();
        keep();
        back();
        toss();
        clear();
        put();
        at();
        copy();
        copyRefusals();
        count();
        Check.done("TapesTest");
    }

    private static long at(CordCart x, int d, int i) {
        return Check.answerOf(() -> x.at(d, i));
    }

    private static void dueRow(String when, CordCart x, int d, long... row) {
        for (int i = 0; i < row.length; i++) {
            Check.due(when + ": at(" + d + ", " + i + ")", at(x, d, i), row[i]);
        }
        Check.due(when + ": no more", at(x, d, row.length), Check.STATE);
    }

    private static void row(CordCart x, int d, int sort, long... row) {
        x.tape(d, sort, row.length);
        for (int i = 0; i < row.length; i++) {
            x.put(d, i, row[i]);
        }
    }

    private static void tape() {
        CordCart x = new CordCart();
        Check.due("tape(-1, 1, 1)", x.tape(-1, 1, 1), -1);
        Check.due("tape(6, 1, 1)", x.tape(6, 1, 1), -1);
        Check.due("tape(0, 0, 1)", x.tape(0, 0, 1), -1);
        Check.due("tape(0, 5, 1)", x.tape(0, 5, 1), -1);
        Check.due("tape(0, 1, 65)", x.tape(0, 1, 65), -1);
        Check.due("NONE is ahead of SIZE", x.tape(0, 5, -1), -1);
        Check.due("NONE of a tape is ahead of SIZE", x.tape(6, 1, -1), -1);
        Check.due("none is counted", x.count(6), 0);
        Check.due("tape(0, 1, -1)", x.tape(0, 1, -1), -14);
        Check.due("tape(0, 1, MIN)", x.tape(0, 1, Integer.MIN_VALUE), -14);
        Check.due("counted", x.count(6), 2);
        Check.due("nothing is held", at(x, 0, 0), Check.STATE);
        Check.due("tape(5, 4, 64)", x.tape(5, 4, 64), 64);
        dueRow("all 0", x, 5, new long[64]);
        x.put(5, 63, 9);
        x.put(5, 0, 8);
        Check.due("SIZE changes nothing", x.tape(5, 4, -9), -14);
        Check.due("as before", at(x, 5, 63), 9);
        Check.due("again", x.tape(5, 2, 1), 1);
        dueRow("0 again", x, 5, 0);
        x.tape(5, 2, 64);
        dueRow("all 0 again", x, 5, new long[64]);
        Check.due("a row without places", x.tape(5, 3, 0), 0);
        dueRow("a row without places", x, 5);
        Check.due("is held", x.clear(5), 3);
        x.keep(5);
        Check.due("instead of a cart", x.tape(5, 1, 2), 2);
        Check.due("no cart any more", x.back(5), -12);
    }

    private static CordCart wound() {
        CordCart x = new CordCart();
        x.wind(0, 0, 5, 1);
        x.wind(0, 3, 6, 0);
        x.wind(2, 1, 7, 0);
        x.wind(2, 3, 8, 0);
        x.peg(-5, 3);
        x.peg(9, 4);
        x.hard(6);
        return x;
    }

    private static void keep() {
        CordCart x = new CordCart();
        Check.due("keep(-1)", x.keep(-1), -1);
        Check.due("keep(6)", x.keep(6), -1);
        Check.due("a bare one", x.keep(0), 0);
        x = wound();
        Check.due("keep(0)", x.keep(0), 4);
        Check.due("it goes on", x.count(0), 4);
        x.unwind(0);
        x.wind(2, 0, 1, 0);
        Check.due("another one", x.keep(1), 3);
        Check.due("the first one is as it was", x.back(0), 4);
        x.tape(1, 1, 1);
        Check.due("instead of a row", x.keep(1), 4);
        Check.due("the cart there", x.back(1), 4);
    }

    private static void back() {
        CordCart x = wound();
        Check.due("back(-1)", x.back(-1), -1);
        Check.due("back(6)", x.back(6), -1);
        Check.due("nothing", x.back(0), -11);
        for (int sort = 1; sort <= 4; sort++) {
            x.tape(0, sort, 0);
            Check.due("a row", x.back(0), -12);
        }
        Check.due("nothing changed", x.count(0), 4);
        x.keep(0);
        x.start(3, 4, 5);
        x.fall(77);
        x.spot(1, 1, 1);
        x.unwind(0);
        x.unwind(2);
        x.wind(1, 0, 1, 0);
        x.peg(-5, 0);
        x.peg(9, 8);
        x.peg(0, 1);
        x.peg(1, 1);
        x.hard(1);
        Check.due("back(0)", x.back(0), 4);
        Check.due("hard", x.hard(6), 6);
        Check.due("pegs", x.count(1), 2);
        Check.due("the peg that was taken out", x.peg(-5, 0), 1);
        Check.due("no peg of after", x.peg(1, 0), -1);
        int[][] due = {{0, 0, 0, 5, 1}, {0, 1, 3, 6, 0}, {2, 0, 1, 7, 0}, {2, 1, 3, 8, 0}};
        for (int[] s : due) {
            for (int what = 0; what < 3; what++) {
                Check.due("segment " + s[1] + " of " + s[0], x.segment(s[0], s[1], what), s[2 + what]);
            }
        }
        Check.due("the other cord is bare", x.cord(1), 0);
        Check.due("FALL stays", x.fall(1), 77);
        Check.due("spots stay", x.count(4), 1);
        x.fill(0);
        Check.due("START stays", x.where(0, 2), 5);
        Check.due("the tape's has its gaps still", x.toss(0), 2);
        x.back(0);
        x.peg(9, 0);
        x.peg(-5, 0);
        x.wind(2, 0, 9, 0);
        Check.due("the tape's is apart", x.back(0), 4);
        x.unwind(0);
        x.unwind(2);
        x.wind(2, 0, 9, 0);
        x.fall(9);
        x.show();
        Check.due("the peg's act of then", x.acted(0, 0), 4);
    }

    private static void toss() {
        CordCart x = wound();
        Check.due("toss(-1)", x.toss(-1), -1);
        Check.due("toss(6)", x.toss(6), -1);
        Check.due("none is counted", x.count(6), 0);
        Check.due("nothing", x.toss(0), -11);
        x.tape(0, 4, 4);
        Check.due("a row", x.toss(0), -12);
        x.keep(0);
        Check.due("two", x.toss(0), 2);
        x.unwind(0);
        x.keep(1);
        Check.due("one", x.toss(1), 1);
        x.back(0);
        x.fill(0);
        Check.due("two on the tape still", x.toss(0), 2);
        x.keep(1);
        Check.due("a whole one", x.toss(1), -15);
        x.unwind(0);
        x.unwind(2);
        x.keep(2);
        Check.due("a bare one", x.toss(2), -15);
        Check.due("counted", x.count(6), 4);
        for (int i = 0; i < 40; i++) {
            x.wind(i % 3, 3, 1, 0);
        }
        x.keep(3);
        Check.due("forty", x.toss(3), 40);
        Check.due("it is there still", x.clear(3), 5);
    }

    private static void clear() {
        CordCart x = new CordCart();
        Check.due("clear(-1)", x.clear(-1), -1);
        Check.due("clear(6)", x.clear(6), -1);
        for (int d = 0; d < 6; d++) {
            Check.due("nothing", x.clear(d), 0);
        }
        for (int sort = 1; sort <= 4; sort++) {
            x.tape(3, sort, 1);
            Check.due("sort " + sort, x.clear(3), sort);
            Check.due("then nothing", x.clear(3), 0);
            Check.due("no row", at(x, 3, 0), Check.STATE);
        }
        x.keep(3);
        x.keep(4);
        Check.due("a cart", x.clear(3), 5);
        Check.due("no cart", x.back(3), -11);
        Check.due("the other tape stays", x.clear(4), 5);
    }

    private static void put() {
        CordCart x = new CordCart();
        Check.due("put(-1, 0, 0)", x.put(-1, 0, 0), -1);
        Check.due("put(6, 0, 0)", x.put(6, 0, 0), -1);
        Check.due("nothing", x.put(0, 0, 0), -11);
        x.keep(0);
        Check.due("a cart", x.put(0, 0, 0), -12);
        Check.due("CAST is ahead of PLACE", x.put(0, -1, 0), -12);
        x.tape(0, 1, 3);
        Check.due("no place", x.put(0, 3, 1), -13);
        Check.due("no place below", x.put(0, -1, 1), -13);
        Check.due("counted", x.count(6), 5);
        long[] told = {127, 128, -129, 255, 256, 32768, -32769, 1L << 31, (1L << 32) + 5, Long.MIN_VALUE, Long.MAX_VALUE};
        for (long v : told) {
            long[] due = {(byte) v, (short) v, (int) v, v};
            for (int sort = 1; sort <= 4; sort++) {
                x.tape(sort, sort, 2);
                Check.due("put", x.put(sort, 1, v), 1);
                dueRow("narrowed to sort " + sort, x, sort, 0, due[sort - 1]);
            }
        }
        Check.due("by words: 128 as a byte", narrowed(x, 1, 128), -128);
        Check.due("by words: 65535 as a short", narrowed(x, 2, 65535), -1);
        Check.due("by words: 3000000000 as an int", narrowed(x, 3, 3000000000L), -1294967296);
        Check.due("by words: 3000000000 as a long", narrowed(x, 4, 3000000000L), 3000000000L);
    }

    private static long narrowed(CordCart x, int sort, long v) {
        x.tape(5, sort, 1);
        x.put(5, 0, v);
        return x.at(5, 0);
    }

    private static void at() {
        CordCart x = new CordCart();
        Check.due("at(-1, 0)", at(x, -1, 0), Check.ARGUMENT);
        Check.due("at(6, 0)", at(x, 6, 0), Check.ARGUMENT);
        Check.due("nothing", at(x, 0, 0), Check.STATE);
        x.keep(0);
        Check.due("a cart", at(x, 0, 0), Check.STATE);
        row(x, 0, 4, 5, -6);
        Check.due("at(0, 1)", at(x, 0, 1), -6);
        Check.due("at(0, 2)", at(x, 0, 2), Check.STATE);
        Check.due("at(0, -1)", at(x, 0, -1), Check.STATE);
        Check.due("at(0, MAX)", at(x, 0, Integer.MAX_VALUE), Check.STATE);
        Check.due("none is counted", x.count(6), 0);
    }

    private static void copy() {
        CordCart x = new CordCart();
        row(x, 0, 3, 1, 2, 3, 4, 5);
        row(x, 1, 3, 0, 0, 0);
        Check.due("copy(0, 2, 1, 0, 3)", x.copy(0, 2, 1, 0, 3), 3);
        dueRow("copied", x, 1, 3, 4, 5);
        dueRow("from", x, 0, 1, 2, 3, 4, 5);
        Check.due("none of them", x.copy(0, 5, 1, 3, 0), 0);
        Check.due("one", x.copy(0, 0, 1, 1, 1), 1);
        dueRow("one copied", x, 1, 3, 1, 5);
        Check.due("on itself, up", x.copy(0, 0, 0, 1, 4), 4);
        dueRow("up", x, 0, 1, 1, 2, 3, 4);
        Check.due("on itself, down", x.copy(0, 2, 0, 0, 3), 3);
        dueRow("down", x, 0, 2, 3, 4, 3, 4);
        Check.due("on its own place", x.copy(0, 0, 0, 0, 5), 5);
        dueRow("as before", x, 0, 2, 3, 4, 3, 4);
        for (int sort = 1; sort <= 4; sort++) {
            x.tape(2, sort, 64);
            x.tape(3, sort, 64);
            x.put(2, 63, 100 + sort);
            Check.due("64 of sort " + sort, x.copy(2, 0, 3, 0, 64), 64);
            Check.due("the last of sort " + sort, at(x, 3, 63), 100 + sort);
        }
    }

    private static void copyRefusals() {
        CordCart x = new CordCart();
        row(x, 0, 3, 1, 2, 3);
        row(x, 1, 2, 7, 8, 9);
        row(x, 4, 3, 4, 5);
        x.keep(2);
        x.keep(5);
        Check.due("no such tape", x.copy(-1, 0, 0, 0, 1), -1);
        Check.due("no such other tape", x.copy(3, 0, 6, 0, 1), -1);
        Check.due("none is counted", x.count(6), 0);
        Check.due("nothing", x.copy(3, 0, 0, 0, 1), -11);
        Check.due("nothing on the other", x.copy(2, 0, 3, 0, 1), -11);
        Check.due("two sorts", x.copy(0, 0, 1, 0, 1), -12);
        Check.due("two sorts, and none", x.copy(0, 0, 1, 0, 0), -12);
        Check.due("a cart", x.copy(2, 0, 0, 0, 1), -12);
        Check.due("to a cart", x.copy(0, 0, 2, 0, 1), -12);
        Check.due("two carts", x.copy(2, 0, 5, 0, 0), -12);
        Check.due("CAST is ahead of PLACE", x.copy(0, 0, 1, 0, -1), -12);
        int[][] places = {
            {0, 0, -1}, {-1, 0, 1}, {0, -1, 1}, {0, 0, 3}, {2, 0, 2}, {0, 1, 2}, {4, 0, 0}, {0, 3, 0},
            {Integer.MAX_VALUE, 0, 1}, {0, Integer.MAX_VALUE, 1}, {1, 0, Integer.MAX_VALUE}, {0, 0, Integer.MIN_VALUE}};
        for (int[] p : places) {
            Check.due("places " + p[0] + " " + p[1] + " " + p[2], x.copy(0, p[0], 4, p[1], p[2]), -13);
        }
        Check.due("counted", x.count(6), 8 + places.length);
        dueRow("nothing changed", x, 4, 4, 5);
        dueRow("nothing changed", x, 0, 1, 2, 3);
    }

    private static void count() {
        CordCart x = wound();
        x.block(3, 3);
        x.block(3, 4);
        x.block(3, 5);
        x.wish(1, 1, 0);
        x.spot(1, 1, 1);
        x.spot(2, 1, 1);
        x.toss(0);
        x.back(0);
        x.put(0, 0, 0);
        x.sand(0, 1);
        x.copy(0, 0, 0, 0, 0);
        int[] due = {4, 2, 3, 1, 2, 2, 5};
        for (int what = 0; what <= 6; what++) {
            Check.due("count(" + what + ")", x.count(what), due[what]);
        }
        Check.due("count(7)", x.count(7), -1);
        Check.due("count(-1)", x.count(-1), -1);
        Check.due("count(MIN)", x.count(Integer.MIN_VALUE), -1);
        x.make();
        x.start(0, 0, 1);
        x.make();
        x.peg(500, 1);
        x.sand(0, 99);
        Check.due("other refusals are none of the host's", x.count(6), 5);
    }
}
