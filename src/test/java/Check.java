import java.util.ArrayList;
import java.util.List;

/** Counts and prints the answers that are not due; each test's main ends with done(). */
final class Check {
    static final long ARGUMENT = Long.MIN_VALUE + 1, STATE = Long.MIN_VALUE + 2;

    /** A call whose answer may be an exception. */
    interface Call {
        long answer();
    }

    /** Words of the document, and the part they stand in: a term's number or a promise's. */
    record Sentence(String part, String words) { }

    private static final List<Sentence> sentences = new ArrayList<>();
    private static int right;
    private static int wrong;

    private Check() {
    }

    /** A test that fails if these words of the document are broken. */
    static void sentence(String part, String words, Runnable test) {
        sentences.add(new Sentence(part, words));
        int before = wrong;
        int asked = right + wrong;
        try {
            test.run();
        } catch (RuntimeException e) {
            wrong++;
            e.printStackTrace(System.out);
        }
        if (right + wrong == asked) {
            wrong++;
            System.out.println("nothing is asked");
        }
        if (wrong > before) {
            System.out.println("    broken is " + part + ": " + words);
        }
    }

    static List<Sentence> sentences() {
        return sentences;
    }

    static void due(String call, long got, long want) {
        if (got == want) {
            right++;
            return;
        }
        wrong++;
        System.out.println(call + " answered " + told(got) + ", due is " + told(want));
    }

    /** The same for a call whose answer may be an exception. */
    static void due(String call, Call asked, long want) {
        due(call, answerOf(asked), want);
    }

    static void holds(String what, boolean is) {
        due(what, is ? 1 : 0, 1);
    }

    /** ARGUMENT and STATE stand for the two exceptions that the document names. */
    static long answerOf(Call call) {
        try {
            return call.answer();
        } catch (IllegalArgumentException e) {
            return e.getClass() == IllegalArgumentException.class ? ARGUMENT : Long.MIN_VALUE;
        } catch (IllegalStateException e) {
            return e.getClass() == IllegalStateException.class ? STATE : Long.MIN_VALUE;
        } catch (RuntimeException e) {
            e.printStackTrace(System.out);
            return Long.MIN_VALUE;
        }
    }

    /** The first numbers beyond a range on either side, and the farthest ones. */
    static int[] outside(int least, int most) {
        return new int[] {least - 1, most + 1, Integer.MIN_VALUE, Integer.MAX_VALUE};
    }

    static String told(long answer) {
        return answer == ARGUMENT ? "IllegalArgumentException"
            : answer == STATE ? "IllegalStateException"
            : answer == Long.MIN_VALUE ? "an exception that is not promised" : Long.toString(answer);
    }

    static int wrong() {
        return wrong;
    }

    static void done(String test) {
        System.out.println(test + ": " + right + " answers as due, " + wrong + " not");
        if (wrong != 0) {
            System.exit(1);
        }
    }
}
