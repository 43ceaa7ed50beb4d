import java.util.List;

/**
 * Tests of refused calls: the very exception that is due is thrown, and all that can be asked
 * behind the call (also what the text would do, and what undo() would bring back) is as it is of
 * a twin that was made in the same way and never called.
 */
final class Refusal {
    interface Maker {
        ConsentQueue make();
    }

    interface Call {
        long on(ConsentQueue queue);
    }

    interface CallWith {
        long on(ConsentQueue queue, int value);
    }

    private interface Look {
        List<Long> at(ConsentQueue queue);
    }

    private Refusal() {
    }

    static void index(String what, Maker maker, Call call) {
        check(what, IndexOutOfBoundsException.class, maker, call);
    }

    static void argument(String what, Maker maker, Call call) {
        check(what, IllegalArgumentException.class, maker, call);
    }

    static void state(String what, Maker maker, Call call) {
        check(what, IllegalStateException.class, maker, call);
    }

    static void indices(String what, Maker maker, CallWith call, int... values) {
        for (int value : values) {
            index(what + " " + value, maker, queue -> call.on(queue, value));
        }
    }

    static void arguments(String what, Maker maker, CallWith call, int... values) {
        for (int value : values) {
            argument(what + " " + value, maker, queue -> call.on(queue, value));
        }
    }

    private static void check(String what, Class<? extends RuntimeException> due, Maker maker,
            Call call) {
        compare(what, due, maker, call, Snapshot::of);
        compare(what + ", undo", due, maker, call, Snapshot::ofSavedStates);
        compare(what + ", text", due, maker, call, Snapshot::ofText);
    }

    private static void compare(String what, Class<? extends RuntimeException> due, Maker maker,
            Call call, Look look) {
        ConsentQueue called = maker.make();
        Expect.refused(what, due, () -> call.on(called));
        Expect.holds(what + ", all is as before", look.at(called).equals(look.at(maker.make())));
    }
}
