import java.lang.reflect.Field;
import java.lang.reflect.Method;
import java.lang.reflect.Modifier;
import java.util.Arrays;
import java.util.TreeSet;
import java.util.stream.Collectors;

/** The document's face: its constants and methods, and nothing else that is not private. */
public final class FaceTest {
    private static final String[] METHODS = {
        "int begin()", "int wind(int, int, int, int)", "int unwind(int)", "int segment(int, int, int)", "int hard(int)",
        "int peg(int, int)", "int start(int, int, int)", "int block(int, int)", "int sand(int, int)", "int hold(int)",
        "int fall(int)", "int cord(int)", "int show()", "int pose(int)", "int acted(int, int)", "int slipped(int, int)",
        "int where(int, int)", "int wish(int, int, int)", "int wishless()", "int way(int, int, int, int, int)", "int make()",
        "int spot(int, int, int)", "int spotless()", "int miss()", "int fillings()", "int filling(int)", "int fill(int)",
        "int slips()", "int slip(int)", "int pair()", "int reads()", "int tape(int, int, int)", "int keep(int)",
        "int back(int)", "int toss(int)", "int clear(int)", "int put(int, int, long)", "long at(int, int)",
        "int copy(int, int, int, int, int)", "int count(int)"};
    private static final String[] CONSTANTS = {
        "NONE", "FULL", "UNKNOWN", "BLOCKED", "UNABLE", "SPENT", "NOTHING", "CAST", "PLACE", "SIZE", "THROWN"};
    private static final int[] VALUES = {-1, -2, -3, -4, -5, -6, -11, -12, -13, -14, -15};
    private static final TreeSet<String> THROWERS = new TreeSet<>(Arrays.asList("pose", "acted", "where", "at"));

    private FaceTest() {
    }

    public static void main(String[] args) throws Exception {
        Class<?> face = CordCart.class;
        Check.due("the class is public and final", face.getModifiers(), Modifier.PUBLIC | Modifier.FINAL);
        Check.due("one constructor", face.getDeclaredConstructors().length, 1);
        Check.due("a public one", face.getDeclaredConstructor().getModifiers(), Modifier.PUBLIC);
        constants(face);
        methods(face);
        for (Class<?> inside : face.getDeclaredClasses()) {
            int modifiers = inside.getModifiers();
            boolean isHidden = !Modifier.isPublic(modifiers) && !Modifier.isProtected(modifiers);
            Check.due(inside + " is hidden and static", isHidden && Modifier.isStatic(modifiers) ? 1 : 0, 1);
        }
        Check.done("FaceTest");
    }

    private static void constants(Class<?> face) throws IllegalAccessException {
        TreeSet<String> shown = new TreeSet<>();
        for (Field field : face.getDeclaredFields()) {
            if (!Modifier.isPrivate(field.getModifiers())) {
                shown.add(field.getName());
                Check.due(field + " is a constant", field.getModifiers(), Modifier.PUBLIC | Modifier.STATIC | Modifier.FINAL);
            }
        }
        Check.due("the constants " + shown, shown.equals(new TreeSet<>(Arrays.asList(CONSTANTS))) ? 1 : 0, 1);
        for (int i = 0; i < CONSTANTS.length; i++) {
            for (Field field : face.getDeclaredFields()) {
                if (field.getName().equals(CONSTANTS[i])) {
                    Check.due(CONSTANTS[i], field.getInt(null), VALUES[i]);
                }
            }
        }
    }

    private static void methods(Class<?> face) {
        TreeSet<String> shown = new TreeSet<>();
        TreeSet<String> publicNames = new TreeSet<>();
        for (Method method : face.getDeclaredMethods()) {
            if (Modifier.isPrivate(method.getModifiers())) {
                continue;
            }
            publicNames.add(method.getName());
            String parameters = Arrays.stream(method.getParameterTypes()).map(Class::getName).collect(Collectors.joining(", "));
            shown.add(method.getReturnType().getName() + " " + method.getName() + "(" + parameters + ")");
            Check.due(method + " is public", method.getModifiers(), Modifier.PUBLIC);
            String thrown = Arrays.stream(method.getExceptionTypes()).map(Class::getSimpleName).collect(Collectors.joining(" "));
            String due = THROWERS.contains(method.getName()) ? "IllegalArgumentException IllegalStateException" : "";
            Check.due(method + " throws as said", thrown.equals(due) ? 1 : 0, 1);
        }
        Check.due("the methods " + shown, shown.equals(new TreeSet<>(Arrays.asList(METHODS))) ? 1 : 0, 1);
        for (Method method : face.getDeclaredMethods()) {
            boolean isShared = Modifier.isPrivate(method.getModifiers()) && publicNames.contains(method.getName());
            Check.due("the private " + method + " has a name of its own", isShared ? 1 : 0, 0);
        }
    }
}
