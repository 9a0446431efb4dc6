import java.lang.reflect.InvocationTargetException;
import java.lang.reflect.Method;
import java.lang.reflect.Modifier;
import java.util.ArrayList;
import java.util.Arrays;
import java.util.HashMap;
import java.util.List;
import java.util.Map;

/** Runs of made-up calls, always the same ones, answered by CordCart and by PlainCart alike. */
public final class RandomRunsTest {
    private static final Map<String, Method> OURS = methods(CordCart.class);
    private static final Map<String, Method> PLAIN = methods(PlainCart.class);
    /** What an object answers behind these is free. */
    private static final int MOST_CALLS = 512;

    private long seed;
    private CordCart ours;
    private PlainCart plain;
    private final List<String> told = new ArrayList<>();

    public static void main(String[] args) {
        RandomRunsTest test = new RandomRunsTest();
        int runs = args.length > 0 ? Integer.parseInt(args[0]) : 120;
        for (int i = 0; i < runs && Check.wrong() == 0; i++) {
            test.mixed(1000 + i);
            test.shows(2000 + i);
            test.mazes(3000 + i);
            test.gaps(4000 + i);
            test.slips(5000 + i);
            test.rows(6000 + i);
        }
        Check.done("RandomRunsTest");
    }

    /** The methods of a class that bear the face's names and take the same arguments. */
    private static Map<String, Method> methods(Class<?> type) {
        Map<String, Method> methods = new HashMap<>();
        for (Method face : CordCart.class.getDeclaredMethods()) {
            if (Modifier.isPublic(face.getModifiers())) {
                try {
                    methods.put(face.getName(), type.getDeclaredMethod(face.getName(), face.getParameterTypes()));
                } catch (NoSuchMethodException e) {
                    throw new AssertionError(e);
                }
            }
        }
        return methods;
    }

    private void fresh(int run) {
        seed = run * 7919L + 17;
        ours = new CordCart();
        plain = new PlainCart();
        told.clear();
    }

    /** A number from least to most. */
    private int any(int least, int most) {
        seed = seed * 6364136223846793005L + 1442695040888963407L;
        return least + (int) ((seed >>> 33) % (most - least + 1L));
    }

    private boolean oneIn(int n) {
        return any(1, n) == 1;
    }

    /** Mostly from least to most, now and then just or far beyond. */
    private int near(int least, int most) {
        if (!oneIn(25)) {
            return any(least, most);
        }
        int[] beyond = {least - 1, most + 1, Integer.MIN_VALUE, Integer.MAX_VALUE};
        return beyond[any(0, 3)];
    }

    private long call(String name, long... args) {
        if (told.size() == MOST_CALLS) {
            return CordCart.NONE;
        }
        told.add(name + Arrays.toString(args));
        long got = answer(OURS.get(name), ours, args);
        long want = answer(PLAIN.get(name), plain, args);
        Check.due(name + Arrays.toString(args), got, want);
        if (got != want && Check.wrong() == 1) {
            System.out.println("in the run " + told);
        }
        return want;
    }

    private static long answer(Method method, Object on, long[] args) {
        Object[] given = new Object[args.length];
        for (int i = 0; i < args.length; i++) {
            given[i] = method.getParameterTypes()[i] == long.class ? (Object) args[i] : (Object) (int) args[i];
        }
        return Check.answerOf(() -> {
            try {
                return ((Number) method.invoke(on, given)).longValue();
            } catch (InvocationTargetException e) {
                throw (RuntimeException) e.getCause();
            } catch (IllegalAccessException e) {
                throw new AssertionError(e);
            }
        });
    }

    private void readAll() {
        for (int what = -1; what <= 9; what++) {
            call("pose", what);
        }
        for (int what = 0; what <= 7; what++) {
            call("count", what);
        }
        for (int axle = -1; axle <= 3; axle++) {
            call("cord", axle);
        }
    }

    private void mixed(int run) {
        fresh(run);
        for (int i = 0; i < 480; i++) {
            switch (any(0, 40)) {
                case 0: call(oneIn(10) ? "begin" : "reads"); break;
                case 1: case 2: case 3: wind(12); break;
                case 4: call("unwind", near(0, 2)); break;
                case 5: call("segment", near(0, 2), near(0, 5), near(0, 2)); break;
                case 6: call("hard", near(1, 8)); break;
                case 7: call("peg", near(-400, 400), near(0, 9)); break;
                case 8: call("start", near(0, 31), near(0, 31), near(0, 3) * (oneIn(3) ? 1 : 4)); break;
                case 9: call("block", near(0, 31), near(0, 31)); break;
                case 10: call("sand", near(0, 5), near(1, 30)); break;
                case 11: call("hold", near(1, 9)); break;
                case 12: call("fall", near(0, 4000)); break;
                case 13: call("cord", near(0, 2)); break;
                case 14: call("show"); break;
                case 15: call("pose", near(0, 8)); break;
                case 16: call("acted", near(0, 5), near(0, 3)); break;
                case 17: call("slipped", near(0, 5), near(0, 2)); break;
                case 18: call("where", near(0, 4000), near(0, 4)); break;
                case 19: case 20: wish(); break;
                case 21: call("wishless"); break;
                case 22: call("way", near(0, 31), near(0, 31), near(0, 3), near(0, 31), near(0, 31)); break;
                case 23: call("make"); break;
                case 24: call("spot", near(1, 4000), near(0, 31), near(0, 31)); break;
                case 25: call("spotless"); break;
                case 26: call("miss"); break;
                case 27: call(oneIn(10) ? "fillings" : "show"); break;
                case 28: if (oneIn(10)) call("filling", near(0, 9)); break;
                case 29: call("fill", oneIn(2) ? near(0, 8) : near(0, 3000)); break;
                case 30: call("slips"); break;
                case 31: call("slip", near(0, 9)); break;
                case 32: call("pair"); break;
                default: row(); break;
            }
        }
        readAll();
    }

    private void wind(int longest) {
        int kind = oneIn(12) ? 3 : any(0, 2);
        call("wind", near(0, 2), oneIn(20) ? near(0, 3) : kind, near(1, longest), near(0, 1));
    }

    private void wish() {
        int kind = near(0, 3);
        switch (kind) {
            case 0: call("wish", 0, near(0, 31), near(0, 31)); break;
            case 3: call("wish", 3, near(0, 3), oneIn(30) ? 1 : 0); break;
            default: call("wish", kind, near(1, 99), oneIn(30) ? 1 : 0); break;
        }
    }

    private void shows(int run) {
        fresh(run);
        int longest = oneIn(3) ? 200 : 12;
        int segments = any(0, 90);
        for (int i = 0; i < segments; i++) {
            call("wind", any(0, 2), oneIn(4) ? any(0, 2) : 0, any(1, longest), any(0, 1));
        }
        for (int i = 0; i < 14; i++) {
            call("peg", any(-20, 60), any(1, 9));
        }
        for (int i = 0; i < 20; i++) {
            call("block", any(0, 31), any(0, 31));
        }
        for (int show = 0; show < 4; show++) {
            call("start", any(0, 31), any(0, 31), any(0, 15));
            call("hard", any(1, 8));
            call("hold", any(1, 9));
            call("fall", oneIn(3) ? any(0, 300) : any(0, 4000));
            int n = oneIn(3) ? 1 : any(2, 30);
            call("tape", 0, 1, n);
            for (int i = 0; i < n; i++) {
                call("put", 0, i, oneIn(2) ? 0 : any(0, 9));
            }
            call("sand", 0, n);
            call("show");
            readAll();
            int[] whiches = {-1, 0, 1, 2, any(0, 70), 19, 20, 59, 60};
            for (int i : whiches) {
                call("acted", i, any(0, 3));
                call("slipped", i, any(0, 2));
            }
            call("where", any(0, 4000), any(0, 4));
            call("where", any(0, 100), any(0, 4));
        }
    }

    private void mazes(int run) {
        fresh(run);
        int walls = any(0, 400);
        int side = any(6, 31);
        for (int i = 0; i < walls && told.size() < 380; i++) {
            call("block", any(0, side), any(0, side));
        }
        call("fall", 4000);
        for (int tries = 0; tries < 8; tries++) {
            call("hard", any(1, 8));
            call("start", any(0, side), any(0, side), oneIn(9) ? any(0, 15) : 4 * any(0, 3));
            call("wishless");
            int parts = any(0, oneIn(6) ? 21 : 5);
            for (int i = 0; i < parts; i++) {
                if (oneIn(2)) {
                    call("wish", 0, any(0, side), any(0, side));
                } else {
                    wish();
                }
            }
            call("reads");
            if (call("make") >= 0) {
                call("reads");
                call("show");
                readAll();
                for (int i = 0; i < 8; i++) {
                    call("segment", any(0, 2), any(0, 12), any(0, 2));
                }
            }
            call("way", any(0, side), any(0, side), any(0, 3), any(0, side), any(0, side));
        }
    }

    private void gaps(int run) {
        fresh(run);
        call("start", any(10, 20), any(10, 20), any(0, 15));
        call("hard", any(1, 8));
        int gaps = any(0, 8);
        for (int axle = 0; axle < 3; axle++) {
            int segments = any(0, 7);
            for (int i = 0; i < segments; i++) {
                boolean gap = gaps > 0 && oneIn(2);
                gaps -= gap ? 1 : 0;
                call("wind", axle, gap ? 3 : any(0, 2), any(1, 8), any(0, 1));
            }
        }
        call("keep", 5);
        call("toss", 5);
        for (int tries = 0; tries < 3; tries++) {
            call("back", 5);
            int filling = any(0, 800);
            call("fill", filling);
            call("fill", any(0, 80));
            tellSpots(any(0, 4));
            call("miss");
            call("back", 5);
            call("fillings");
            call("filling", any(-1, 2));
            call("filling", any(0, 30));
            call("fall", any(10, 80));
            call("fillings");
            call("fall", 2000);
            call("spotless");
        }
        call("fillings");
        call("filling", any(0, 800));
        call("fill", any(0, 4000));
        call("fill", Integer.MAX_VALUE);
        readAll();
    }

    /** Spots where the cart really comes to, so that something agrees with them. */
    private void tellSpots(int n) {
        for (int i = 0; i < n; i++) {
            int unit = any(1, 60);
            long x = call("where", unit, 0);
            long y = call("where", unit, 1);
            if (x != Check.STATE) {
                call("spot", unit, Math.floorDiv(x, 1000), Math.floorDiv(y, 1000));
            }
        }
    }

    private void slips(int run) {
        fresh(run);
        call("start", any(10, 20), any(10, 20), any(0, 15));
        call("hard", any(1, 8));
        for (int axle = 0; axle < 3; axle++) {
            int segments = any(0, 8);
            for (int i = 0; i < segments; i++) {
                call("wind", axle, any(0, 2), any(1, 8), 0);
            }
        }
        call("keep", 1);
        for (int tries = 0; tries < 5; tries++) {
            int axle = any(0, 1);
            long count = call("cord", axle);
            // As if one or two of the axle's segments had been given as slack.
            rewindWithSlack(axle, any(1, 7), any(1, 9));
            tellSpots(any(0, 4));
            call("back", 1);
            call("slips");
            call("slip", any(-1, 1));
            call("slip", any(0, 20));
            call("pair");
            call("fall", any(0, 60));
            call("slips");
            call("pair");
            call("fall", 2000);
            call("spotless");
        }
    }

    private void rewindWithSlack(int axle, int one, int other) {
        List<Integer> kinds = new ArrayList<>();
        List<Integer> lengths = new ArrayList<>();
        for (int i = 0; call("segment", axle, i, 0) >= 0; i++) {
            kinds.add(i == one || i == other ? 2 : (int) call("segment", axle, i, 0));
            lengths.add((int) call("segment", axle, i, 1));
        }
        call("unwind", axle);
        for (int i = 0; i < kinds.size(); i++) {
            call("wind", axle, kinds.get(i), lengths.get(i), 0);
        }
    }

    private void rows(int run) {
        fresh(run);
        for (int i = 0; i < 500; i++) {
            row();
        }
        readAll();
    }

    private void row() {
        int d = near(0, 5);
        switch (any(0, 12)) {
            case 0: case 1: call("tape", d, near(1, 4), oneIn(9) ? any(-5, 70) : any(0, 6)); break;
            case 2: call("keep", d); break;
            case 3: call("back", d); break;
            case 4: call("toss", d); break;
            case 5: if (oneIn(4)) call("clear", d); break;
            case 6: case 7:
                call("put", d, near(0, 6), oneIn(2) ? any(0, 9) : ((long) any(0, 70000) << any(0, 48)) * (oneIn(2) ? 1 : -1));
                break;
            case 8: case 9: call("at", d, near(0, 6)); break;
            case 10: call("copy", d, near(0, 3), near(0, 5), near(0, 3), near(0, 3)); break;
            case 11: call("sand", d, near(1, 6)); break;
            default: call("wind", any(0, 2), any(0, 3), any(1, 9), any(0, 1)); break;
        }
    }
}
