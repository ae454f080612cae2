/** Counts and prints the answers that are not the ones due. */
final class Check {
    interface Call {
        long answer();
    }

    static final long ARGUMENT = Long.MIN_VALUE + 1;
    static final long STATE = Long.MIN_VALUE + 2;
    static final long INDEX = Long.MIN_VALUE + 3;

    private static int wrong = 0;
    private static String sentence = "";

    private Check() {
    }

    /** What a call answers, an exception of the document as one of the numbers above. */
    static long of(Call call) {
        try {
            return call.answer();
        } catch (RuntimeException e) {
            return numberOf(e.getClass());
        }
    }

    private static long numberOf(Class<?> kind) {
        if (kind == IllegalArgumentException.class) {
            return ARGUMENT;
        }
        if (kind == IllegalStateException.class) {
            return STATE;
        }
        if (kind == IndexOutOfBoundsException.class) {
            return INDEX;
        }
        throw new AssertionError("an exception that the document does not name: " + kind);
    }

    static void due(String what, long want, Call call) {
        same(what, want, of(call));
    }

    /** The sentence of the document that the checks after this call test. */
    static void sentence(String text) {
        sentence = "\"" + text + "\": ";
    }

    static void same(String what, long want, long got) {
        if (got != want) {
            wrong++;
            System.out.println(sentence + what + " answered " + text(got) + ", due is " + text(want));
        }
    }

    /** A call that is refused, and that leaves the state as it was, the undo stack included. */
    static void refused(String what, long exception, AntilockBrakes x, Call call) {
        long before = x.digest();
        due(what, exception, call);
        due(what + " changes nothing: digest()", before, x::digest);
    }

    static void yes(String what, boolean holds) {
        same(what, 1, number(holds));
    }

    private static String text(long answer) {
        return answer == ARGUMENT ? "IllegalArgumentException"
                : answer == STATE ? "IllegalStateException"
                : answer == INDEX ? "IndexOutOfBoundsException"
                : Long.toString(answer);
    }

    static long number(boolean flag) {
        return flag ? 1 : 0;
    }

    static void end() {
        if (wrong != 0) {
            System.out.println(wrong + " answers are not as due");
            System.exit(1);
        }
    }
}
