/** Counts the answers of a test that are not as due, and ends the test with exit code 1 if any. */
final class Expect {
    interface Call {
        long answer();
    }

    private static int wrong;
    private static int asked;

    private Expect() {
    }

    static void equal(String what, long got, long want) {
        asked++;
        if (got != want) {
            wrong++;
            System.out.println(what + ": answered " + got + ", due is " + want);
        }
    }

    static void holds(String what, boolean is) {
        equal(what, is ? 1 : 0, 1);
    }

    /** The class has to be the named one itself: the machine throws classes below these. */
    static void refused(String what, Class<? extends RuntimeException> due, Call call) {
        asked++;
        String got;
        try {
            got = "answered " + call.answer();
        } catch (RuntimeException thrown) {
            if (thrown.getClass() == due) {
                return;
            }
            got = "threw " + thrown.getClass().getName();
        }
        wrong++;
        System.out.println(what + ": " + got + ", due is " + due.getName());
    }

    static void badIndex(String what, Call call) {
        refused(what, IndexOutOfBoundsException.class, call);
    }

    static void badArgument(String what, Call call) {
        refused(what, IllegalArgumentException.class, call);
    }

    static void badState(String what, Call call) {
        refused(what, IllegalStateException.class, call);
    }

    static void finish() {
        System.out.println(asked + " answers, " + wrong + " not as due");
        if (wrong != 0) {
            System.exit(1);
        }
    }
}
