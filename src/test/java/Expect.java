/** Counts the answers of a test that are not as due, and ends the test with exit code 1 if any. */
final class Expect {
    interface Call {
        long answer();
    }

    interface Test {
        void run();
    }

    private static int wrong;
    private static int asked;
    /** What the running test says of itself; stands in front of every answer that is not as due. */
    private static String sentence = "";

    private Expect() {
    }

    /** A test of one sentence of the document: a throw in it counts as wrong, and others go on. */
    static void sentence(String promiseAndWords, Test test) {
        sentence = promiseAndWords + " | ";
        int before = asked;
        try {
            test.run();
        } catch (RuntimeException thrown) {
            fail("threw " + thrown);
        }
        if (asked == before) {
            fail("asks nothing");
        }
        sentence = "";
    }

    private static void fail(String what) {
        wrong++;
        System.out.println(sentence + what);
    }

    static void equal(String what, long got, long want) {
        asked++;
        if (got != want) {
            fail(what + ": answered " + got + ", due is " + want);
        }
    }

    static void holds(String what, boolean is) {
        equal(what, is ? 1 : 0, 1);
    }

    /** The class has to be the named one itself: the machine throws classes below these. */
    static void refused(String what, Class<? extends RuntimeException> due, Call call) {
        asked++;
        String got;
        try {
            got = "answered " + call.answer();
        } catch (RuntimeException thrown) {
            if (thrown.getClass() == due) {
                return;
            }
            got = "threw " + thrown.getClass().getName();
        }
        fail(what + ": " + got + ", due is " + due.getName());
    }

    static void badIndex(String what, Call call) {
        refused(what, IndexOutOfBoundsException.class, call);
    }

    static void badArgument(String what, Call call) {
        refused(what, IllegalArgumentException.class, call);
    }

    static void badState(String what, Call call) {
        refused(what, IllegalStateException.class, call);
    }

    static void finish() {
        System.out.println(asked + " answers, " + wrong + " not as due");
        if (wrong != 0) {
            System.exit(1);
        }
    }
}
