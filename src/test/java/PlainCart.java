import java.util.ArrayList;
import java.util.Arrays;
import java.util.HashSet;
import java.util.List;
import java.util.Map;
import java.util.PriorityQueue;
import java.util.Set;
import java.util.TreeMap;

/**
 * The document told a second time, in the slowest and plainest way (unit by unit, all four
 * directions, real host refusals), for RandomRunsTest to hold CordCart against.
 */
final class PlainCart {
    record Segment(int kind, int length, boolean worn) { }

    record Place(int x, int y) { }

    record Part(int kind, int a, int b) { }

    record Spot(int unit, Place cell) { }

    record Slip(int axle, int segment) { }

    static final class Cart {
        final List<List<Segment>> cords = new ArrayList<>();
        final Map<Integer, Integer> pegs = new TreeMap<>();
        int d = 2;

        Cart() {
            for (int axle = 0; axle < 3; axle++) {
                cords.add(new ArrayList<>());
            }
        }

        Cart like() {
            Cart other = new Cart();
            for (int axle = 0; axle < 3; axle++) {
                other.cords.get(axle).addAll(cords.get(axle));
            }
            other.pegs.putAll(pegs);
            other.d = d;
            return other;
        }

        int segments() {
            return cords.stream().mapToInt(List::size).sum();
        }

        int unknown() {
            return (int) cords.stream().flatMap(List::stream).filter(s -> s.kind == 3).count();
        }
    }

    static final class Failure extends RuntimeException {
        final int unknown;

        Failure(int unknown) {
            this.unknown = unknown;
        }
    }

    /** One run; slipping tells which axle's segment is given as slack because of a slip. */
    final class Walk {
        int x = 1000 * startX + 500;
        int y = 1000 * startY + 500;
        int direction = startDirection;
        int phase;
        int step;
        int unit;
        final int[] at = new int[3];
        final int[] given = new int[3];
        final Set<Slip> slipped = new HashSet<>();
        final List<Integer> ended = new ArrayList<>();
        boolean drumMoved;

        void unit() {
            unit++;
            ended.clear();
            int[] turns = new int[3];
            for (int axle = 0; axle < 3; axle++) {
                List<Segment> cord = cart.cords.get(axle);
                if (at[axle] == cord.size()) {
                    continue;
                }
                Segment segment = cord.get(at[axle]);
                boolean slack = segment.kind == 2 || slipped.contains(new Slip(axle, at[axle] - 1));
                turns[axle] = slack ? 0 : segment.kind == 0 ? 1 : -1;
                given[axle]++;
                if (given[axle] == segment.length) {
                    ended.add(axle);
                    at[axle]++;
                    given[axle] = 0;
                }
            }
            int[] half = halfStep(direction);
            x += (turns[0] + turns[1]) * half[0];
            y += (turns[0] + turns[1]) * half[1];
            phase += turns[1] - turns[0];
            if (phase >= 2 * cart.d) {
                phase -= 2 * cart.d;
                direction = direction == 15 ? 0 : direction + 1;
            } else if (phase <= -2 * cart.d) {
                phase += 2 * cart.d;
                direction = direction == 0 ? 15 : direction - 1;
            }
            step += turns[2];
            drumMoved = turns[2] != 0;
        }

        boolean out() {
            for (int axle = 0; axle < 3; axle++) {
                if (at[axle] < cart.cords.get(axle).size()) {
                    return false;
                }
            }
            return true;
        }

        Place cell() {
            return new Place(Math.floorDiv(x, 1000), Math.floorDiv(y, 1000));
        }

        int part(int what) {
            return new int[] {x, y, direction, phase, step}[what];
        }
    }

    static int[] halfStep(int direction) {
        int[][] first = {{500, 0}, {462, 191}, {354, 354}, {191, 462}};
        int[] half = first[direction % 4];
        for (int turned = direction / 4; turned > 0; turned--) {
            half = new int[] {-half[1], half[0]};
        }
        return half;
    }

    private Cart cart;
    private int startX, startY, startDirection;
    private Set<Place> blocked;
    private List<Integer> sand;
    private int hold, fall;
    private List<Part> wish;
    private List<Spot> spots;
    private final Object[] tapes = new Object[6];
    private int hosts;
    private Walk shown;
    private int ticks, astray, slipCount;
    private List<int[]> acts;
    private List<int[]> slipsKept;

    PlainCart() {
        begin();
    }

    int begin() {
        cart = new Cart();
        startX = startY = startDirection = 0;
        blocked = new HashSet<>();
        sand = List.of(1);
        hold = 9;
        fall = 2000;
        wish = new ArrayList<>();
        spots = new ArrayList<>();
        shown = null;
        hosts = 0;
        return 0;
    }

    static boolean axle(int axle) {
        return 0 <= axle && axle <= 2;
    }

    static boolean cell(int x, int y) {
        return 0 <= x && x <= 31 && 0 <= y && y <= 31;
    }

    static boolean tape(int d) {
        return 0 <= d && d <= 5;
    }

    int wind(int axle, int kind, int length, int worn) {
        if (!axle(axle) || kind < 0 || kind > 3 || length < 1 || length > 200 || worn < 0 || worn > 1) {
            return -1;
        }
        List<Segment> cord = cart.cords.get(axle);
        if (cord.size() == 40) {
            return -2;
        }
        cord.add(new Segment(kind, length, worn == 1));
        return cord.size();
    }

    int unwind(int axle) {
        if (!axle(axle)) {
            return -1;
        }
        int had = cart.cords.get(axle).size();
        cart.cords.get(axle).clear();
        return had;
    }

    int segment(int axle, int i, int what) {
        if (!axle(axle) || i < 0 || i >= cart.cords.get(axle).size() || what < 0 || what > 2) {
            return -1;
        }
        Segment segment = cart.cords.get(axle).get(i);
        return what == 0 ? segment.kind : what == 1 ? segment.length : segment.worn ? 1 : 0;
    }

    int hard(int d) {
        if (d < 1 || d > 8) {
            return -1;
        }
        int was = cart.d;
        cart.d = d;
        return was;
    }

    int peg(int step, int act) {
        if (step < -400 || step > 400 || act < 0 || act > 9) {
            return -1;
        }
        if (act == 0 && cart.pegs.remove(step) == null) {
            return -1;
        }
        if (act != 0) {
            if (cart.pegs.size() == 12 && !cart.pegs.containsKey(step)) {
                return -2;
            }
            cart.pegs.put(step, act);
        }
        return cart.pegs.size();
    }

    int start(int x, int y, int direction) {
        if (!cell(x, y) || direction < 0 || direction > 15) {
            return -1;
        }
        startX = x;
        startY = y;
        startDirection = direction;
        return blocked.contains(new Place(x, y)) ? 1 : 0;
    }

    int block(int x, int y) {
        if (!cell(x, y)) {
            return -1;
        }
        Place place = new Place(x, y);
        if (blocked.remove(place)) {
            return 0;
        }
        blocked.add(place);
        return 1;
    }

    int sand(int d, int n) {
        if (!tape(d) || n < 1 || n > 30) {
            return -1;
        }
        try {
            if (tapes[d] == null) {
                throw new NullPointerException();
            }
            byte[] row = (byte[]) tapes[d];
            List<Integer> told = new ArrayList<>();
            for (int i = 0; i < n; i++) {
                told.add((int) row[i]);
            }
            if (told.stream().anyMatch(s -> s < 0 || s > 9) || told.stream().allMatch(s -> s == 0)) {
                return -5;
            }
            sand = told;
            return n;
        } catch (NullPointerException e) {
            return host(-11);
        } catch (ClassCastException e) {
            return host(-12);
        } catch (ArrayIndexOutOfBoundsException e) {
            return host(-13);
        }
    }

    int host(int refusal) {
        hosts++;
        return refusal;
    }

    int hold(int h) {
        if (h < 1 || h > 9) {
            return -1;
        }
        int was = hold;
        hold = h;
        return was;
    }

    int fall(int units) {
        if (units < 0 || units > 4000) {
            return -1;
        }
        int was = fall;
        fall = units;
        return was;
    }

    int cord(int axle) {
        return axle(axle) ? cart.cords.get(axle).stream().mapToInt(Segment::length).sum() : -1;
    }

    int show() {
        if (cart.unknown() > 0) {
            return -3;
        }
        shown = new Walk();
        ticks = 0;
        astray = 0;
        slipCount = 0;
        acts = new ArrayList<>();
        slipsKept = new ArrayList<>();
        while (ticks < 9999 && shown.unit < fall && !shown.out()) {
            int number = sand.get(ticks % sand.size());
            ticks++;
            for (int i = 0; i < number && shown.unit < fall; i++) {
                shown.unit();
                Place cell = shown.cell();
                if (shown.drumMoved && cart.pegs.containsKey(shown.step) && acts.size() < 60) {
                    acts.add(new int[] {cart.pegs.get(shown.step), shown.unit, cell.x, cell.y});
                }
                if (!cell(cell.x, cell.y) || blocked.contains(cell)) {
                    astray++;
                }
                if (number > hold) {
                    for (int axle : shown.ended) {
                        int segment = shown.at[axle] - 1;
                        List<Segment> cord = cart.cords.get(axle);
                        if (cord.get(segment).worn && segment + 1 < cord.size()) {
                            shown.slipped.add(new Slip(axle, segment));
                            slipCount++;
                            if (slipsKept.size() < 20) {
                                slipsKept.add(new int[] {axle, segment, shown.unit});
                            }
                        }
                    }
                }
            }
        }
        return shown.unit;
    }

    int pose(int what) {
        if (what < 0 || what > 8) {
            throw new IllegalArgumentException();
        }
        if (shown == null) {
            throw new IllegalStateException();
        }
        return what < 5 ? shown.part(what) : new int[] {ticks, acts.size(), slipCount, astray}[what - 5];
    }

    int acted(int i, int what) {
        if (what < 0 || what > 3) {
            throw new IllegalArgumentException();
        }
        if (shown == null || i < 0 || i >= acts.size()) {
            throw new IllegalStateException();
        }
        return acts.get(i)[what];
    }

    int slipped(int i, int what) {
        if (what < 0 || what > 2 || shown == null || i < 0 || i >= slipsKept.size()) {
            return -1;
        }
        return slipsKept.get(i)[what];
    }

    Walk walked(int unit, Slip... slips) {
        Walk walk = new Walk();
        walk.slipped.addAll(Arrays.asList(slips));
        while (walk.unit < unit && walk.unit < fall) {
            walk.unit();
        }
        return walk;
    }

    int where(int unit, int what) {
        if (what < 0 || what > 4 || unit < 0 || unit > 4000) {
            throw new IllegalArgumentException();
        }
        if (cart.unknown() > 0) {
            throw new IllegalStateException();
        }
        return walked(unit).part(what);
    }

    int wish(int kind, int a, int b) {
        boolean right = switch (kind) {
            case 0 -> cell(a, b);
            case 1, 2 -> a >= 1 && a <= 99 && b == 0;
            case 3 -> a >= 0 && a <= 3 && b == 0;
            default -> false;
        };
        if (!right) {
            return -1;
        }
        if (wish.size() == 20) {
            return -2;
        }
        wish.add(new Part(kind, a, b));
        return wish.size();
    }

    int wishless() {
        int had = wish.size();
        wish.clear();
        return had;
    }

    /** A state is a cell and a quarter; move 0 AHEAD, 1 ASTERN, 2 LEFT, 3 RIGHT. */
    record State(int x, int y, int q) {
        State moved(int move) {
            int dx = new int[] {1, 0, -1, 0}[q];
            int dy = new int[] {0, 1, 0, -1}[q];
            return switch (move) {
                case 0 -> new State(x + dx, y + dy, q);
                case 1 -> new State(x - dx, y - dy, q);
                case 2 -> new State(x, y, (q + 1) % 4);
                default -> new State(x, y, (q + 3) % 4);
            };
        }
    }

    boolean open(State state) {
        return cell(state.x, state.y) && !blocked.contains(new Place(state.x, state.y));
    }

    int cost(int move) {
        return move < 2 ? 1 : 4 * cart.d;
    }

    static int index(State state) {
        return (state.y * 32 + state.x) * 4 + state.q;
    }

    /** The least units from each state to a cell, -1 where there is no way. */
    int[] least(int toX, int toY) {
        int[] least = new int[4096];
        Arrays.fill(least, -1);
        record Due(int units, State state) { }
        PriorityQueue<Due> due = new PriorityQueue<>((a, b) -> a.units - b.units);
        for (int q = 0; q < 4; q++) {
            due.add(new Due(0, new State(toX, toY, q)));
        }
        int[] undo = {1, 0, 3, 2};
        while (!due.isEmpty()) {
            Due next = due.poll();
            if (!open(next.state) || least[index(next.state)] >= 0) {
                continue;
            }
            least[index(next.state)] = next.units;
            for (int move = 0; move < 4; move++) {
                due.add(new Due(next.units + cost(move), next.state.moved(undo[move])));
            }
        }
        return least;
    }

    int way(int x, int y, int q, int tox, int toy) {
        if (!cell(x, y) || q < 0 || q > 3 || !cell(tox, toy)) {
            return -1;
        }
        State from = new State(x, y, q);
        if (!open(from)) {
            return -4;
        }
        int units = least(tox, toy)[index(from)];
        return units < 0 ? -5 : units;
    }

    /** The windings that the wish makes, each unit told as three kinds; answer[0] is its refusal or units. */
    List<List<Segment>> windings(int[] answer) {
        if (startDirection % 4 != 0) {
            answer[0] = -5;
            return null;
        }
        State state = new State(startX, startY, startDirection / 4);
        if (!open(state)) {
            answer[0] = -4;
            return null;
        }
        List<int[]> units = new ArrayList<>();
        for (int p = 0; p < wish.size(); p++) {
            Part part = wish.get(p);
            List<Integer> moves = new ArrayList<>();
            if (part.kind == 0) {
                int[] least = least(part.a, part.b);
                if (least[index(state)] < 0) {
                    answer[0] = -100 - p;
                    return null;
                }
                State now = state;
                while (least[index(now)] > 0) {
                    for (int move = 0; move < 4; move++) {
                        State then = now.moved(move);
                        if (open(then) && least[index(then)] + cost(move) == least[index(now)]) {
                            moves.add(move);
                            now = then;
                            break;
                        }
                    }
                }
            } else if (part.kind == 3) {
                int lefts = Math.floorMod(part.a - state.q, 4);
                moves.addAll(lefts == 3 ? List.of(3) : lefts == 2 ? List.of(2, 2) : lefts == 1 ? List.of(2) : List.of());
            } else {
                for (int i = 0; i < part.a; i++) {
                    units.add(new int[] {2, 2, part.kind == 1 ? 2 : 0});
                }
            }
            for (int move : moves) {
                for (int i = 0; i < cost(move); i++) {
                    units.add(new int[][] {{0, 0, 2}, {1, 1, 2}, {1, 0, 2}, {0, 1, 2}}[move]);
                }
                state = state.moved(move);
            }
        }
        List<List<Segment>> cords = new ArrayList<>();
        boolean full = false;
        for (int axle = 0; axle < 3; axle++) {
            List<Segment> cord = new ArrayList<>();
            int run = 0;
            for (int u = 0; u < units.size(); u++) {
                run++;
                boolean last = u + 1 == units.size() || units.get(u + 1)[axle] != units.get(u)[axle];
                if (last || run == 200) {
                    cord.add(new Segment(units.get(u)[axle], run, false));
                    run = 0;
                }
            }
            full |= cord.size() > 40;
            cords.add(cord);
        }
        answer[0] = full ? -2 : units.size() > fall ? -6 : units.size();
        return cords;
    }

    int make() {
        int[] answer = new int[1];
        List<List<Segment>> made = windings(answer);
        if (answer[0] >= 0) {
            for (int axle = 0; axle < 3; axle++) {
                cart.cords.set(axle, new ArrayList<>(made.get(axle)));
            }
        }
        return answer[0];
    }

    int reads() {
        int[] answer = new int[1];
        List<List<Segment>> made = windings(answer);
        return answer[0] < 0 ? answer[0] : made.equals(cart.cords) ? 1 : 0;
    }

    int spot(int unit, int x, int y) {
        if (unit < 1 || unit > 4000 || !cell(x, y)) {
            return -1;
        }
        if (spots.size() == 12) {
            return -2;
        }
        spots.add(new Spot(unit, new Place(x, y)));
        return spots.size();
    }

    int spotless() {
        int had = spots.size();
        spots.clear();
        return had;
    }

    int missed(Slip... slips) {
        int most = spots.stream().mapToInt(Spot::unit).max().orElse(0);
        Walk walk = new Walk();
        walk.slipped.addAll(Arrays.asList(slips));
        int missed = 0;
        for (int unit = 1; unit <= most; unit++) {
            if (walk.unit < fall) {
                walk.unit();
            }
            for (Spot spot : spots) {
                if (spot.unit == unit && !spot.cell.equals(walk.cell())) {
                    missed++;
                }
            }
        }
        return missed;
    }

    int miss() {
        return cart.unknown() > 0 ? -3 : missed();
    }

    /** The cart's cords with a filling; null if it has no such number. */
    Cart filled(int number) {
        Cart filled = cart.like();
        int rest = number;
        for (List<Segment> cord : filled.cords) {
            for (int i = 0; i < cord.size(); i++) {
                if (cord.get(i).kind == 3) {
                    cord.set(i, new Segment(rest % 3, cord.get(i).length, cord.get(i).worn));
                    rest /= 3;
                }
            }
        }
        return number < 0 || rest > 0 ? null : filled;
    }

    List<Integer> agreeing() {
        List<Integer> numbers = new ArrayList<>();
        Cart own = cart;
        for (int number = 0; ; number++) {
            Cart filled = filled(number);
            if (filled == null) {
                return numbers;
            }
            cart = filled;
            if (missed() == 0) {
                numbers.add(number);
            }
            cart = own;
        }
    }

    int fillings() {
        return cart.unknown() > 6 ? -6 : agreeing().size();
    }

    int filling(int i) {
        if (i < 0) {
            return -1;
        }
        if (cart.unknown() > 6) {
            return -6;
        }
        List<Integer> numbers = agreeing();
        return i < numbers.size() ? numbers.get(i) : -1;
    }

    int fill(int number) {
        Cart filled = filled(number);
        if (filled == null) {
            return -1;
        }
        int unknown = cart.unknown();
        if (unknown > 6) {
            return -6;
        }
        cart = filled;
        return unknown;
    }

    List<Slip> allSlips() {
        List<Slip> slips = new ArrayList<>();
        for (int axle = 0; axle < 3; axle++) {
            for (int i = 0; i + 1 < cart.cords.get(axle).size(); i++) {
                slips.add(new Slip(axle, i));
            }
        }
        return slips;
    }

    int slips() {
        return cart.unknown() > 0 ? -3 : (int) allSlips().stream().filter(s -> missed(s) == 0).count();
    }

    int slip(int i) {
        if (i < 0) {
            return -1;
        }
        if (cart.unknown() > 0) {
            return -3;
        }
        List<Slip> right = allSlips().stream().filter(s -> missed(s) == 0).toList();
        return i < right.size() ? 100 * right.get(i).axle + right.get(i).segment : -1;
    }

    int pair() {
        if (cart.unknown() > 0) {
            return -3;
        }
        List<Slip> all = allSlips();
        for (int first = 0; first < all.size(); first++) {
            for (int second = first + 1; second < all.size(); second++) {
                if (missed(all.get(first), all.get(second)) == 0) {
                    return 1000 * first + second;
                }
            }
        }
        return -1;
    }

    int tape(int d, int sort, int n) {
        if (!tape(d) || sort < 1 || sort > 4 || n > 64) {
            return -1;
        }
        try {
            tapes[d] = switch (sort) {
                case 1 -> new byte[n];
                case 2 -> new short[n];
                case 3 -> new int[n];
                default -> new long[n];
            };
            return n;
        } catch (NegativeArraySizeException e) {
            return host(-14);
        }
    }

    int keep(int d) {
        if (!tape(d)) {
            return -1;
        }
        tapes[d] = cart.like();
        return cart.segments();
    }

    int back(int d) {
        if (!tape(d)) {
            return -1;
        }
        try {
            if (tapes[d] == null) {
                throw new NullPointerException();
            }
            cart = ((Cart) tapes[d]).like();
            return cart.segments();
        } catch (NullPointerException e) {
            return host(-11);
        } catch (ClassCastException e) {
            return host(-12);
        }
    }

    int toss(int d) {
        if (!tape(d)) {
            return -1;
        }
        if (tapes[d] == null) {
            return host(-11);
        }
        try {
            int unknown = ((Cart) tapes[d]).unknown();
            throw unknown == 0 ? null : new Failure(unknown);
        } catch (Failure failure) {
            return failure.unknown;
        } catch (ClassCastException e) {
            return host(-12);
        } catch (NullPointerException e) {
            return host(-15);
        }
    }

    int clear(int d) {
        if (!tape(d)) {
            return -1;
        }
        Object held = tapes[d];
        tapes[d] = null;
        return held == null ? 0 : held instanceof Cart ? 5 : sort(held);
    }

    static int sort(Object row) {
        return row instanceof byte[] ? 1 : row instanceof short[] ? 2 : row instanceof int[] ? 3 : 4;
    }

    int put(int d, int i, long v) {
        if (!tape(d)) {
            return -1;
        }
        Object row = tapes[d];
        if (row == null) {
            return host(-11);
        }
        try {
            if (row instanceof byte[] bytes) {
                bytes[i] = (byte) v;
            } else if (row instanceof short[] shorts) {
                shorts[i] = (short) v;
            } else if (row instanceof int[] ints) {
                ints[i] = (int) v;
            } else {
                ((long[]) row)[i] = v;
            }
            return 1;
        } catch (ClassCastException e) {
            return host(-12);
        } catch (ArrayIndexOutOfBoundsException e) {
            return host(-13);
        }
    }

    long at(int d, int i) {
        if (!tape(d)) {
            throw new IllegalArgumentException();
        }
        Object row = tapes[d];
        if (row == null || row instanceof Cart || i < 0 || i >= java.lang.reflect.Array.getLength(row)) {
            throw new IllegalStateException();
        }
        return java.lang.reflect.Array.getLong(row, i);
    }

    int copy(int d, int i, int e, int j, int n) {
        if (!tape(d) || !tape(e)) {
            return -1;
        }
        try {
            System.arraycopy(tapes[d], i, tapes[e], j, n);
            return n;
        } catch (NullPointerException x) {
            return host(-11);
        } catch (ArrayStoreException x) {
            return host(-12);
        } catch (ArrayIndexOutOfBoundsException x) {
            return host(-13);
        }
    }

    int count(int what) {
        return switch (what) {
            case 0 -> cart.segments();
            case 1 -> cart.pegs.size();
            case 2 -> blocked.size();
            case 3 -> wish.size();
            case 4 -> spots.size();
            case 5 -> cart.unknown();
            case 6 -> hosts;
            default -> -1;
        };
    }
}
