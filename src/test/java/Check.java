/** Counts and prints the answers that are not due; each test's main ends with done(). */
final class Check {
    static final long ARGUMENT = Long.MIN_VALUE + 1, STATE = Long.MIN_VALUE + 2;

    /** A call whose answer may be an exception. */
    interface Call {
        long answer();
    }

    private static int right;
    private static int wrong;

    private Check() {
    }

    static void due(String call, long got, long want) {
        if (got == want) {
            right++;
            return;
        }
        wrong++;
        System.out.println(call + " answered " + told(got) + ", due is " + told(want));
    }

    /** ARGUMENT and STATE stand for the two exceptions that the document names. */
    static long answerOf(Call call) {
        try {
            return call.answer();
        } catch (IllegalArgumentException e) {
            return e.getClass() == IllegalArgumentException.class ? ARGUMENT : Long.MIN_VALUE;
        } catch (IllegalStateException e) {
            return e.getClass() == IllegalStateException.class ? STATE : Long.MIN_VALUE;
        } catch (RuntimeException e) {
            e.printStackTrace(System.out);
            return Long.MIN_VALUE;
        }
    }

    static String told(long answer) {
        return answer == ARGUMENT ? "IllegalArgumentException"
            : answer == STATE ? "IllegalStateException"
            : answer == Long.MIN_VALUE ? "an exception that is not promised" : Long.toString(answer);
    }

    static int wrong() {
        return wrong;
    }

    static void done(String test) {
        System.out.println(test + ": " + right + " answers as due, " + wrong + " not");
        if (wrong != 0) {
            System.exit(1);
        }
    }
}
