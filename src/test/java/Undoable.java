import java.util.List;

/**
 * Tests of undoable calls: each saves the one state from before it, drops the oldest of more than
 * four, and is undone whole, but for the command text, which stays.
 */
final class Undoable {
    private Undoable() {
    }

    static void check(String what, Refusal.Maker maker, Refusal.Call call) {
        ConsentQueue queue = maker.make();
        int before = Queues.savedStates(maker.make());
        long text = queue.whole(13);
        call.on(queue);
        int left = before < 4 ? before : 3;
        Expect.equal(what + ", undo()", queue.undo(), left);
        Expect.holds(what + ", all is as before",
                Snapshot.ofState(queue).equals(Snapshot.ofState(maker.make())));
        Expect.equal(what + ", the text stays", queue.whole(13), text);
        saved(what, maker, call, left);
    }

    /**
     * The states saved before are still there, but for the oldest of more than four. Each depth
     * has a queue of its own, as a snapshot takes many of the 512 calls.
     */
    private static void saved(String what, Refusal.Maker maker, Refusal.Call call, int left) {
        for (int deeper = 1; deeper <= left; deeper++) {
            ConsentQueue queue = maker.make();
            call.on(queue);
            undo(queue, deeper);
            Expect.equal(what + ", undo() of an earlier one", queue.undo(), left - deeper);
            ConsentQueue due = maker.make();
            undo(due, deeper);
            Expect.holds(what + ", the earlier one is as it was",
                    Snapshot.ofState(queue).equals(Snapshot.ofState(due)));
        }
        ConsentQueue queue = maker.make();
        call.on(queue);
        undo(queue, left + 1);
        Expect.badState(what + ", undo() of no more", () -> queue.undo());
    }

    private static void undo(ConsentQueue queue, int times) {
        for (int i = 0; i < times; i++) {
            queue.undo();
        }
    }

    /** The call saves nothing: what undo() brings back behind it is what it brought back before. */
    static void not(String what, Refusal.Maker maker, Refusal.Call call) {
        ConsentQueue queue = maker.make();
        call.on(queue);
        List<Long> due = Snapshot.ofState(maker.make());
        Expect.holds(what + " changes no state", Snapshot.ofState(queue).equals(due));
        ConsentQueue other = maker.make();
        call.on(other);
        int states = Queues.savedStates(maker.make());
        Expect.equal(what + ", saved states", Queues.savedStates(other), states);
    }
}
