import com.sun.management.ThreadMXBean;
import java.lang.management.ManagementFactory;

/** All calls of a run live in one room: some 600,000 objects, and 7.3 million fields and elements. */
public final class RoomTest {
    private static final ThreadMXBean BEAN = (ThreadMXBean) ManagementFactory.getThreadMXBean();
    private static final int MOST_CALLS = 512;
    /** An element takes 4 bytes at the least, but for rows of boolean, byte, char and short. */
    private static final long ROOM = 4L * 7_300_000;

    interface Call {
        long of(CordCart x);
    }

    private RoomTest() {
    }

    public static void main(String[] args) {
        fits("show()", CordCart::show);
        fits("where(4000, 0)", x -> x.where(4000, 0));
        fits("way(0, 0, 0, 31, 31)", x -> x.way(0, 0, 0, 31, 31));
        fits("reads()", CordCart::reads);
        fits("miss()", CordCart::miss);
        fits("slips()", CordCart::slips);
        fits("slip(0)", x -> x.slip(0));
        fits("pair()", CordCart::pair);
        fits("tape(1, 4, 64)", x -> x.tape(1, 4, 64));
        fits("keep(2)", x -> x.keep(2));
        fits("back(5)", x -> x.back(5));
        fits("toss(5)", x -> x.toss(5));
        fits("copy(4, 0, 4, 0, 64)", x -> x.copy(4, 0, 4, 0, 64));
        fits("begin()", CordCart::begin);
        fits("make()", CordCart::make);
        fitsWithGaps("fillings()", CordCart::fillings);
        fitsWithGaps("filling(0)", x -> x.filling(0));
        fitsWithGaps("toss(5)", x -> x.toss(5));
        Check.done("RoomTest");
    }

    private static void fits(String name, Call call) {
        fits(name, call, 0);
    }

    private static void fitsWithGaps(String name, Call call) {
        fits(name + " with gaps", call, 6);
    }

    /** A new object that is told much, and then the one call again and again. */
    private static void fits(String name, Call call, int gaps) {
        long before = BEAN.getCurrentThreadAllocatedBytes();
        CordCart x = new CordCart();
        int told = tell(x, gaps);
        for (int i = told; i < MOST_CALLS; i++) {
            call.of(x);
        }
        long made = BEAN.getCurrentThreadAllocatedBytes() - before;
        Check.holds(made + " bytes for " + name + " fit into the room", made < ROOM);
    }

    private static int tell(CordCart x, int gaps) {
        x.start(15, 15, 4);
        x.hard(1);
        x.fall(4000);
        x.tape(4, 4, 64);
        for (int axle = 0; axle < 3; axle++) {
            for (int i = 0; i < 40; i++) {
                x.wind(axle, 3 * i < gaps ? Tell.GAP : (i + axle) % 3, 20, 1);
            }
        }
        for (int i = 0; i < 20; i++) {
            x.wish(0, i, i);
        }
        x.keep(5);
        x.spot(4000, 31, 31);
        return 4 + 120 + 20 + 2;
    }
}
