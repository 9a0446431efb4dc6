import com.sun.management.ThreadMXBean;
import java.lang.management.ManagementFactory;

/** All calls of a run share one room: no call may make objects, but for those that throw. */
public final class RoomTest {
    private static final ThreadMXBean BEAN = (ThreadMXBean) ManagementFactory.getThreadMXBean();

    private RoomTest() {
    }

    public static void main(String[] args) {
        for (int i = 0; i < 5; i++) {
            allCalls(new CordCart(), 8);
        }
        long before = BEAN.getCurrentThreadAllocatedBytes();
        CordCart x = new CordCart();
        long made = BEAN.getCurrentThreadAllocatedBytes() - before;
        // 7.3 million fields and elements are the room; one object stays far below.
        Check.due("bytes of a new object are under 400,000 (" + made + ")", made < 400_000 ? 1 : 0, 1);
        before = BEAN.getCurrentThreadAllocatedBytes();
        allCalls(x, 8);
        made = BEAN.getCurrentThreadAllocatedBytes() - before;
        Check.due("bytes of 450 calls are under 10,000 (" + made + ")", made < 10_000 ? 1 : 0, 1);
        Check.done("RoomTest");
    }

    private static void allCalls(CordCart x, int times) {
        for (int i = 0; i < times; i++) {
            x.begin();
            x.start(5, 5, 4);
            for (int k = 0; k < 4; k++) {
                x.wind(0, k % 4, 20, 1);
                x.wind(1, 0, 9, 1);
                x.wind(2, k % 2, 30, 1);
            }
            x.spot(9, 5, 9);
            x.keep(1);
            x.fillings();
            x.filling(0);
            x.fill(1);
            x.slips();
            x.slip(0);
            x.pair();
            x.miss();
            x.where(100, 0);
            x.peg(4, 4);
            x.block(3, 3);
            x.tape(0, 1, 9);
            x.put(0, 0, 9);
            x.copy(0, 0, 0, 1, 5);
            x.at(0, 0);
            x.sand(0, 3);
            x.hold(2);
            x.show();
            x.pose(0);
            x.wish(0, 31, 31);
            x.wish(3, 2, 0);
            x.way(0, 0, 0, 31, 31);
            x.make();
            x.reads();
            x.back(1);
            x.segment(0, 0, 0);
            x.unwind(2);
            x.wishless();
            x.spotless();
            x.clear(1);
            x.count(0);
            x.cord(0);
            x.fall(999);
            x.slipped(0, 0);
        }
    }
}
