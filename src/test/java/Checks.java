import java.util.function.IntSupplier;

/** Compares answers with those that are due, prints those that are not, and counts them. */
final class Checks {
    static final int STATE = -1001;
    static final int INDEX = -1002;
    private static int wrong;
    private static String test = "";

    private Checks() {
    }

    static void test(String name) {
        test = name;
    }

    static void due(String call, int got, int want) {
        if (got != want) {
            wrong++;
            System.out.println(test + ": " + call + " answered " + shown(got) + ", due is " + shown(want));
        }
    }

    static void due(String call, boolean got, boolean want) {
        due(call, got ? 1 : 0, want ? 1 : 0);
    }

    /** The call's answer, or STATE or INDEX for what it throws. */
    static int answer(IntSupplier call) {
        try {
            return call.getAsInt();
        } catch (IllegalStateException e) {
            return STATE;
        } catch (IndexOutOfBoundsException e) {
            return e.getClass() == IndexOutOfBoundsException.class ? INDEX : other(e);
        } catch (RuntimeException e) {
            return other(e);
        }
    }

    static void fails(String call, IntSupplier it) {
        due(call, answer(it), STATE);
    }

    static void noIndex(String call, IntSupplier it) {
        due(call, answer(it), INDEX);
    }

    static void end() {
        System.out.println(wrong == 0 ? "all answers are as due" : wrong + " answers are not as due");
        if (wrong != 0) {
            System.exit(1);
        }
    }

    private static int other(RuntimeException e) {
        wrong++;
        System.out.println(test + ": threw " + e);
        return -1003;
    }

    private static String shown(int answer) {
        return answer == STATE ? "throws.IllegalStateException"
            : answer == INDEX ? "throws.IndexOutOfBoundsException" : Integer.toString(answer);
    }
}
