/** Counts the answers that are not as due. */
final class Expect {
    private static int asked;
    private static int wrong;
    private static String about = "";

    private Expect() {
    }

    interface Call {
        long answer();
    }

    /** Names what the following calls are about; it stands before each message. */
    static void about(String what) {
        about = what;
    }

    static int asked() {
        return asked;
    }

    static int wrong() {
        return wrong;
    }

    static void yes(String what, boolean holds) {
        tell(holds, what + " does not hold");
    }

    static void fail(String what) {
        tell(false, what);
    }

    static void due(String what, long got, long want) {
        tell(got == want, what + " answered " + got + ", due is " + want);
    }

    static void dueDouble(String what, double got, double want) {
        tell(got == want, what + " answered " + got + ", due is " + want);
    }

    static void dueText(String what, String got, String want) {
        tell(got.equals(want), what + " answered " + got + ", due is " + want);
    }

    static void index(String what, Call call) {
        thrown(what, call, IndexOutOfBoundsException.class);
    }

    static void argument(String what, Call call) {
        thrown(what, call, IllegalArgumentException.class);
    }

    static void state(String what, Call call) {
        thrown(what, call, IllegalStateException.class);
    }

    /** The call throws the exception, and nothing that digest() sees has changed by it. */
    static void refused(String what, IntervalRouter x, Class<? extends RuntimeException> want, Call call) {
        long before = x.digest();
        thrown(what, call, want);
        due(what + ", refused, then digest()", x.digest(), before);
    }

    static void thrown(String what, Call call, Class<? extends RuntimeException> want) {
        String got;
        try {
            got = Long.toString(call.answer());
        } catch (RuntimeException e) {
            got = e.getClass().getName();
        }
        tell(got.equals(want.getName()), what + " answered " + got + ", due is " + want.getName());
    }

    private static void tell(boolean right, String message) {
        asked++;
        if (!right) {
            wrong++;
            if (wrong <= 50) {
                System.out.println(about.isEmpty() ? message : about + ": " + message);
            }
        }
    }

    /** Ends the test: with exit code 1 if an answer was wrong, or if nothing was asked. */
    static void end() {
        System.out.println(asked + " answers, " + wrong + " wrong");
        if (wrong != 0 || asked == 0) {
            System.exit(1);
        }
    }
}
