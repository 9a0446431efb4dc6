import java.lang.reflect.Field;
import java.lang.reflect.InvocationTargetException;
import java.lang.reflect.Method;
import java.lang.reflect.Modifier;
import java.nio.file.Files;
import java.nio.file.Path;
import java.util.List;
import java.util.Map;
import java.util.Set;
import java.util.TreeMap;
import java.util.TreeSet;
import java.util.function.Consumer;
import java.util.function.ToLongFunction;

/** What README.md says of examples, refusals and exceptions is what the program does; run from the project's folder. */
public final class ReadmeTest {
    private static final Path README = Path.of("README.md");
    /** The methods that answer a refusal in the calls that are made here, by its constant. */
    private static final Map<String, Set<String>> answered = new TreeMap<>();
    private static List<String> lines;

    private ReadmeTest() {
    }

    public static void main(String[] args) throws Exception {
        lines = Files.readAllLines(README);
        examples();
        valuesAreTold();
        noneOfAll();
        fullAndGaps();
        wishes();
        tapes();
        refusalsAreTold();
        lostGos();
        exceptions();
        Check.done("ReadmeTest");
    }

    /** A line of an example, and what it answers. */
    private static void example(String line, long got, long want) {
        Check.due(line, got, want);
        Check.holds("this is a line of an example: " + line, lines.stream().anyMatch(told -> told.startsWith(line)));
    }

    private static void examples() {
        CordCart cart = new CordCart();
        example("cart.start(3, 3, 0);", cart.start(3, 3, 0), 0);
        example("cart.wind(0, 0, 4, 0);", cart.wind(0, 0, 4, 0), 1);
        example("cart.wind(1, 0, 4, 0);", cart.wind(1, 0, 4, 0), 1);
        example("cart.wind(2, 0, 4, 0);", cart.wind(2, 0, 4, 0), 1);
        example("cart.peg(3, 7);", cart.peg(3, 7), 1);
        example("int units = cart.show();    // 4 units", cart.show(), 4);
        example("int x = cart.pose(0);       // 7500:", cart.pose(0), 7500);
        example("int act = cart.acted(0, 0); // 7:", cart.acted(0, 0), 7);
        example("int refused = cart.hard(9); // CordCart.NONE", cart.hard(9), CordCart.NONE);
        example("cart.wish(0, 5, 3);", cart.wish(0, 5, 3), 1);
        example("cart.wish(2, 10, 0);", cart.wish(2, 10, 0), 2);
        example("int made = cart.make();     // 12 units", cart.make(), 12);
        long calls = lines.stream().filter(line -> line.matches(".*\\bcart\\.\\w+\\(.*")).count();
        Check.due("calls in the examples", calls, 12);
    }

    private static Map<String, Integer> constants() throws IllegalAccessException {
        Map<String, Integer> constants = new TreeMap<>();
        for (Field field : CordCart.class.getDeclaredFields()) {
            if (Modifier.isPublic(field.getModifiers())) {
                constants.put(field.getName(), field.getInt(null));
            }
        }
        return constants;
    }

    private static void valuesAreTold() throws IllegalAccessException {
        for (Map.Entry<String, Integer> constant : constants().entrySet()) {
            String row = "| " + constant.getKey() + " | " + constant.getValue() + " | ";
            Check.due("rows that begin " + row, lines.stream().filter(line -> line.startsWith(row)).count(), 1);
        }
    }

    /** What NONE's row says of all methods: they are asked for what there is not. */
    private static void noneOfAll() throws IllegalAccessException, InvocationTargetException {
        for (Method method : CordCart.class.getDeclaredMethods()) {
            boolean isAsked = Modifier.isPublic(method.getModifiers()) && method.getExceptionTypes().length == 0;
            if (isAsked && method.getParameterCount() > 0) {
                Object[] wrong = new Object[method.getParameterCount()];
                for (int i = 0; i < wrong.length; i++) {
                    wrong[i] = method.getParameterTypes()[i] == long.class ? (Object) Long.MIN_VALUE : (Object) Integer.MIN_VALUE;
                }
                Check.due(method.getName(), ((Integer) method.invoke(new CordCart(), wrong)), CordCart.NONE);
            }
        }
        Check.due("pair", new CordCart().pair(), CordCart.NONE);
    }

    private static void refused(String constant, int want, String name, Consumer<CordCart> told, ToLongFunction<CordCart> call) {
        CordCart x = new CordCart();
        told.accept(x);
        Check.due(name + " is refused by " + constant, call.applyAsLong(x), want);
        answered.computeIfAbsent(constant, none -> new TreeSet<>()).add(name);
    }

    private static void fullAndGaps() {
        refused("FULL", CordCart.FULL, "wind", x -> Tell.full(x, 0, 0, 1, 0), x -> x.wind(0, 0, 1, 0));
        refused("FULL", CordCart.FULL, "peg", x -> { for (int i = 0; i < 12; i++) x.peg(i, 1); }, x -> x.peg(12, 1));
        refused("FULL", CordCart.FULL, "wish", x -> { for (int i = 0; i < 20; i++) x.wish(1, 1, 0); }, x -> x.wish(1, 1, 0));
        refused("FULL", CordCart.FULL, "spot", x -> { for (int i = 0; i < 12; i++) x.spot(1, 0, 0); }, x -> x.spot(1, 0, 0));
        Consumer<CordCart> gap = x -> x.wind(0, Tell.GAP, 1, 0);
        refused("UNKNOWN", CordCart.UNKNOWN, "show", gap, CordCart::show);
        refused("UNKNOWN", CordCart.UNKNOWN, "miss", gap, CordCart::miss);
        refused("UNKNOWN", CordCart.UNKNOWN, "slips", gap, CordCart::slips);
        refused("UNKNOWN", CordCart.UNKNOWN, "slip", gap, x -> x.slip(0));
        refused("UNKNOWN", CordCart.UNKNOWN, "pair", gap, CordCart::pair);
        refused("SPENT", CordCart.SPENT, "fillings", Tell::manyGaps, CordCart::fillings);
        refused("SPENT", CordCart.SPENT, "filling", Tell::manyGaps, x -> x.filling(0));
        refused("SPENT", CordCart.SPENT, "fill", Tell::manyGaps, x -> x.fill(0));
    }

    private static void ofWish(String constant, int want, Consumer<CordCart> told) {
        refused(constant, want, "make", told, CordCart::make);
        refused(constant, want, "reads", told, CordCart::reads);
    }

    private static void wishes() {
        ofWish("FULL", CordCart.FULL, x -> {
            Tell.lanes(x, Tell.stair(44));
            x.wish(0, 22, 22);
        });
        ofWish("BLOCKED", CordCart.BLOCKED, x -> x.block(0, 0));
        refused("BLOCKED", CordCart.BLOCKED, "way", x -> x.block(0, 0), x -> x.way(0, 0, 0, 1, 0));
        ofWish("UNABLE", CordCart.UNABLE, x -> x.start(0, 0, 1));
        refused("UNABLE", CordCart.UNABLE, "way", x -> x.block(1, 0), x -> x.way(0, 0, 0, 1, 0));
        refused("UNABLE", CordCart.UNABLE, "sand", x -> x.tape(0, 1, 1), x -> x.sand(0, 1));
        ofWish("SPENT", CordCart.SPENT, x -> {
            x.fall(1);
            x.wish(1, 2, 0);
        });
    }

    private static void tapes() {
        Consumer<CordCart> nothing = x -> x.begin();
        Consumer<CordCart> shorts = x -> x.tape(0, 2, 1);
        Consumer<CordCart> held = x -> x.keep(0);
        Consumer<CordCart> bytes = x -> x.tape(0, 1, 1);
        refused("NOTHING", CordCart.NOTHING, "sand", nothing, x -> x.sand(0, 1));
        refused("NOTHING", CordCart.NOTHING, "back", nothing, x -> x.back(0));
        refused("NOTHING", CordCart.NOTHING, "toss", nothing, x -> x.toss(0));
        refused("NOTHING", CordCart.NOTHING, "put", nothing, x -> x.put(0, 0, 1));
        refused("NOTHING", CordCart.NOTHING, "copy", nothing, x -> x.copy(0, 0, 0, 0, 0));
        refused("CAST", CordCart.CAST, "sand", shorts, x -> x.sand(0, 1));
        refused("CAST", CordCart.CAST, "back", shorts, x -> x.back(0));
        refused("CAST", CordCart.CAST, "toss", shorts, x -> x.toss(0));
        refused("CAST", CordCart.CAST, "put", held, x -> x.put(0, 0, 1));
        refused("CAST", CordCart.CAST, "copy", held, x -> x.copy(0, 0, 0, 0, 0));
        refused("PLACE", CordCart.PLACE, "sand", bytes, x -> x.sand(0, 2));
        refused("PLACE", CordCart.PLACE, "put", bytes, x -> x.put(0, 1, 1));
        refused("PLACE", CordCart.PLACE, "copy", bytes, x -> x.copy(0, 0, 0, 1, 1));
        refused("SIZE", CordCart.SIZE, "tape", nothing, x -> x.tape(0, 1, -1));
        refused("THROWN", CordCart.THROWN, "toss", held, x -> x.toss(0));
    }

    /** The names in backticks in the last column of a constant's row are those that answered it here. */
    private static void refusalsAreTold() throws IllegalAccessException {
        for (String constant : constants().keySet()) {
            if (constant.equals("NONE")) {
                continue;
            }
            for (String line : lines) {
                if (line.startsWith("| " + constant + " | ")) {
                    Set<String> told = names(line.split(" \\| ")[3]);
                    Check.holds(constant + " is answered by " + answered.get(constant) + ", told are " + told, told.equals(answered.get(constant)));
                }
            }
        }
    }

    private static Set<String> names(String column) {
        Set<String> names = new TreeSet<>();
        String[] parts = column.split("`");
        for (int i = 1; i < parts.length; i += 2) {
            names.add(parts[i]);
        }
        return names;
    }

    private static void lostGos() {
        CordCart x = new CordCart();
        x.block(9, 9);
        x.wish(0, 9, 9);
        Check.due("part 0 has no way", x.make(), -100);
        x.wishless();
        x.wish(1, 1, 0);
        x.wish(0, 9, 9);
        Check.due("part 1 has no way", x.reads(), -101);
    }

    private static void exceptions() {
        Set<String> throwers = new TreeSet<>();
        for (Method method : CordCart.class.getDeclaredMethods()) {
            if (method.getExceptionTypes().length > 0) {
                throwers.add(method.getName());
                String row = "| `" + method.getName() + "` | ";
                Check.due("rows that begin " + row, lines.stream().filter(line -> line.startsWith(row)).count(), 1);
            }
        }
        Check.due("four methods throw", throwers.size(), 4);
        CordCart x = new CordCart();
        x.wind(0, Tell.GAP, 1, 0);
        Check.due("pose of no such what, and no show", () -> x.pose(9), Check.ARGUMENT);
        Check.due("pose of no show", () -> x.pose(8), Check.STATE);
        Check.due("acted of no such what, and no show", () -> x.acted(0, 4), Check.ARGUMENT);
        Check.due("acted of no show", () -> x.acted(0, 3), Check.STATE);
        Check.due("where of no such what, and a gap", () -> x.where(0, 5), Check.ARGUMENT);
        Check.due("where of no such unit, and a gap", () -> x.where(4001, 4), Check.ARGUMENT);
        Check.due("where with a gap", () -> x.where(4000, 4), Check.STATE);
        Check.due("at of no such tape", () -> x.at(6, 0), Check.ARGUMENT);
        Check.due("at of no row", () -> x.at(5, 0), Check.STATE);
        x.tape(5, 1, 1);
        Check.due("at of no such place", () -> x.at(5, 1), Check.STATE);
    }
}
