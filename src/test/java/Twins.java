import java.util.ArrayList;
import java.util.List;
import java.util.function.Consumer;
import java.util.function.ToLongFunction;

/**
 * Two objects that were told the same. On one of them a call is made that must change nothing: then
 * both must answer alike, whatever they are asked and told behind it.
 */
final class Twins {
    private static final int HOST_REFUSALS = 6;

    private final CordCart x = new CordCart();
    private final List<String> answers = new ArrayList<>();
    private int hostRefusals;

    private Twins(Consumer<CordCart> told) {
        told.accept(x);
    }

    /** A call that is refused, or that only asks. */
    static void due(String call, Consumer<CordCart> told, ToLongFunction<CordCart> asked, long want) {
        Twins asking = new Twins(told);
        Twins other = new Twins(told);
        Check.due(call, () -> asked.applyAsLong(asking.x), want);
        asking.askAll();
        other.askAll();
        boolean isCounted = want <= CordCart.NOTHING && want >= CordCart.THROWN;
        Check.due(call + ": refusals of the host's", asking.hostRefusals - other.hostRefusals, isCounted ? 1 : 0);
        for (int i = 0; i < asking.answers.size(); i++) {
            boolean isLike = asking.answers.get(i).equals(other.answers.get(i));
            if (!isLike) {
                System.out.println("behind " + call + ": " + asking.answers.get(i) + ", and " + other.answers.get(i) + " without it");
            }
            Check.holds(call + " changes nothing", isLike);
        }
    }

    private void ask(String call, Check.Call asked) {
        answers.add(call + " is " + Check.told(Check.answerOf(asked)));
    }

    private void askAll() {
        askCounts();
        askShow();
        askRuns();
        askTapes();
        askSettings();
        x.fill(0);
        askRuns();
        askMade();
        askPegs(Tell.FORTH);
        askPegs(Tell.BACK);
        askSand();
        askCarts();
    }

    private void askCounts() {
        hostRefusals = x.count(HOST_REFUSALS);
        for (int what = 0; what < HOST_REFUSALS; what++) {
            int counted = what;
            ask("count(" + what + ")", () -> x.count(counted));
        }
        askCords();
        for (int axle = 0; axle < 3; axle++) {
            int last = axle;
            ask("segment(" + axle + ", 39, 1)", () -> x.segment(last, 39, 1));
        }
    }

    private void askCords() {
        for (int axle = 0; axle < 3; axle++) {
            int of = axle;
            ask("cord(" + axle + ")", () -> x.cord(of));
            for (int i = 0; i < 4; i++) {
                int at = i;
                for (int what = 0; what < 3; what++) {
                    int part = what;
                    ask("segment(" + axle + ", " + i + ", " + what + ")", () -> x.segment(of, at, part));
                }
            }
        }
    }

    private void askShow() {
        for (int what = 0; what <= 8; what++) {
            int part = what;
            ask("pose(" + what + ")", () -> x.pose(part));
        }
        for (int what = 0; what <= 3; what++) {
            int part = what;
            ask("acted(0, " + what + ")", () -> x.acted(0, part));
            ask("slipped(0, " + what + ")", () -> x.slipped(0, part));
        }
    }

    private void askRuns() {
        for (int what = 0; what <= 4; what++) {
            int part = what;
            ask("where(0, " + what + ")", () -> x.where(0, part));
            ask("where(7, " + what + ")", () -> x.where(7, part));
        }
        ask("miss()", x::miss);
        ask("fillings()", x::fillings);
        ask("filling(1)", () -> x.filling(1));
        ask("slips()", x::slips);
        ask("slip(0)", () -> x.slip(0));
        ask("pair()", x::pair);
        ask("reads()", x::reads);
        ask("way(0, 0, 0, 31, 31)", () -> x.way(0, 0, 0, 31, 31));
    }

    private void askTapes() {
        for (int d = 0; d < 6; d++) {
            int of = d;
            for (int i : new int[] {0, 1, 2, 63}) {
                ask("at(" + d + ", " + i + ")", () -> x.at(of, i));
            }
        }
    }

    private void askSettings() {
        ask("hard(2)", () -> x.hard(2));
        ask("hold(1)", () -> x.hold(1));
        ask("fall(4000)", () -> x.fall(4000));
        int[][] cells = {{0, 0}, {31, 0}, {0, 31}, {31, 31}, {4, 4}, {5, 5}, {9, 9}};
        for (int[] cell : cells) {
            ask("start(" + cell[0] + ", " + cell[1] + ", 0)", () -> x.start(cell[0], cell[1], 0));
        }
    }

    private void askMade() {
        x.start(1, 1, 0);
        ask("make()", x::make);
        askCords();
        ask("wishless()", x::wishless);
        ask("spotless()", x::spotless);
    }

    private void askPegs(int kind) {
        Tell.cord(x, Tell.LEFT);
        Tell.cord(x, Tell.RIGHT);
        Tell.cord(x, Tell.DRUM, kind, 200, kind, 200);
        ask("show()", x::show);
        for (int i = 0; i < 12; i++) {
            int act = i;
            ask("acted(" + i + ", 0)", () -> x.acted(act, 0));
            ask("acted(" + i + ", 1)", () -> x.acted(act, 1));
        }
    }

    private void askSand() {
        x.unwind(Tell.DRUM);
        for (int i = 0; i < 12; i++) {
            x.wind(Tell.DRUM, Tell.FORTH, 1, 1);
        }
        ask("show()", x::show);
        ask("pose(5)", () -> x.pose(5));
        ask("pose(7)", () -> x.pose(7));
        for (int i = 0; i < 4; i++) {
            int slip = i;
            ask("slipped(" + i + ", 2)", () -> x.slipped(slip, 2));
        }
    }

    private void askCarts() {
        for (int d = 0; d < 6; d++) {
            int of = d;
            ask("back(" + d + ")", () -> x.back(of));
            ask("count(1)", () -> x.count(1));
            ask("hard(1)", () -> x.hard(1));
            ask("segment(0, 0, 1)", () -> x.segment(0, 0, 1));
            ask("clear(" + d + ")", () -> x.clear(of));
        }
    }
}
