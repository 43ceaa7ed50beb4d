/** The boundaries that promises 19 to 23 name, a test for each sentence that names one. */
final class WhatIfBoundariesTest {
    private static final int MIN = Integer.MIN_VALUE;
    private static final int MAX = Integer.MAX_VALUE;
    private static final int[] NO_WORTH = {-1, 100, MIN, MAX};
    /** Of the members of busy(), 0 was served; 6 would be the next one. */
    private static final int[] NOT_IN_BUSY = {-1, 0, 6, 10, MIN, MAX};

    private WhatIfBoundariesTest() {
    }

    public static void main(String[] args) {
        settledPlace();
        profit();
        bestLie();
        honestCost();
        disorder();
        Expect.finish();
    }

    /** A question leaves all as it is, also what undo() would bring back. */
    private static void changesNothing(String what, Refusal.Call call) {
        Undoable.not(what, Queues::busy, call);
        Undoable.not(what, Queues::full, call);
        ConsentQueue asked = Queues.busy();
        call.on(asked);
        Expect.holds(what + ", saved states",
                Snapshot.ofSavedStates(asked).equals(Snapshot.ofSavedStates(Queues.busy())));
    }

    // ---- promise 19

    private static void settledPlace() {
        Expect.sentence("Promise 19: refused if there is no such member", () -> {
            Refusal.indices("member", Queues::busy, (q, m) -> q.settledPlace(m), NOT_IN_BUSY);
            Refusal.indices("member", Queues::full, (q, m) -> q.settledPlace(m), -1, 10);
            Refusal.indices("member", Queues::empty, (q, m) -> q.settledPlace(m), -1, 0);
        });
        Expect.sentence("Promise 19: the place in the order that settle() leads to", () -> {
            Expect.equal("alone", Queues.alone().settledPlace(0), 0);
            ConsentQueue queue = Queues.full();
            for (int member = 0; member <= 9; member++) {
                Expect.equal("of ten who turn round", queue.settledPlace(member), 9 - member);
            }
            ConsentQueue held = Queues.fullOfFriends();
            for (int member = 0; member <= 9; member++) {
                Expect.equal("of ten friends", held.settledPlace(member), member);
            }
        });
        Expect.sentence("Promise 19: it changes nothing", () ->
                changesNothing("settledPlace", queue -> queue.settledPlace(3)));
    }

    // ---- promise 20

    private static void profit() {
        Expect.sentence("Promise 20: refused if there is no such member", () -> {
            Refusal.indices("member", Queues::busy, (q, m) -> q.profit(m, 5), NOT_IN_BUSY);
            Refusal.indices("member", Queues::full, (q, m) -> q.profit(m, 5), -1, 10);
        });
        Expect.sentence("Promise 20: worth 0 to 99, refused", () -> {
            Refusal.arguments("worth", Queues::busy, (q, w) -> q.profit(1, w), NO_WORTH);
            Refusal.arguments("worth", Queues::busy, (q, w) -> q.profit(5, w), NO_WORTH);
        });
        Expect.sentence("Promise 20: a wrong member comes before a wrong worth", () -> {
            Refusal.indices("member", Queues::busy, (q, m) -> q.profit(m, 100), NOT_IN_BUSY);
            Refusal.index("nobody", Queues::empty, queue -> queue.profit(0, -1));
        });
        Expect.sentence("Promise 20: worth 0 to 99, let in", WhatIfBoundariesTest::profitsOfTwo);
        Expect.sentence("Promise 20: by its true worth, perhaps below 0", () -> {
            Expect.equal("alone, 0", Queues.alone().profit(0, 0), 0);
            Expect.equal("alone, 99", Queues.alone().profit(0, 99), 0);
            ConsentQueue dear = Queues.of(99, 30, 0, 30);
            dear.setSplit(100);
            Expect.equal("the greatest loss", dear.profit(1, 99), 0);
            dear.say(0, 0);
            Expect.equal("paid for nothing", dear.profit(1, 99), -2970);
            Expect.equal("one told", dear.profit(1, 1), -30);
            ConsentQueue glad = Queues.of(0, 30, 99, 30);
            glad.setSplit(0);
            Expect.equal("got for nothing", glad.profit(1, 1), 2970);
        });
        Expect.sentence("Promise 20: what it has now counts", WhatIfBoundariesTest::profitsFromNow);
        Expect.sentence("Promise 20: it changes nothing", () ->
                changesNothing("profit", queue -> queue.profit(3, 0)));
    }

    /** Member 1 saves 90 and pays what it tells, in part, or stays for a told worth below 3. */
    private static void profitsOfTwo() {
        ConsentQueue queue = Queues.of(5, 10, 9, 4);
        Expect.equal("told 0", queue.profit(1, 0), 0);
        Expect.equal("told 2, a surplus of 0", queue.profit(1, 2), 0);
        Expect.equal("told 3", queue.profit(1, 3), 90 - 25);
        Expect.equal("told 98", queue.profit(1, 98), 90 - 500);
        Expect.equal("told 99", queue.profit(1, 99), 90 - 505);
        Expect.equal("the front one, told 0", queue.profit(0, 0), 45 - 20);
        Expect.equal("the front one, told 22", queue.profit(0, 22), 89 - 20);
        Expect.equal("the front one, told 23", queue.profit(0, 23), 0);
        Expect.equal("the front one, told 99", queue.profit(0, 99), 0);
    }

    private static void profitsFromNow() {
        ConsentQueue queue = Queues.of(5, 10, 9, 4);
        queue.swap(0);
        Expect.equal("the payer stays where it is", queue.profit(1, 9), 0);
        Expect.equal("the paid one, too", queue.profit(0, 5), 0);
        ConsentQueue held = Queues.of(5, 10, 9, 4);
        held.befriend(0);
        Expect.equal("held by a friend", held.profit(1, 99), 0);
    }

    // ---- promise 21

    private static void bestLie() {
        Expect.sentence("Promise 21: refused if there is no such member", () -> {
            Refusal.indices("member", Queues::busy, (q, m) -> q.bestLie(m), NOT_IN_BUSY);
            Refusal.indices("member", Queues::full, (q, m) -> q.bestLie(m), -1, 10);
            Refusal.indices("member", Queues::empty, (q, m) -> q.bestLie(m), -1, 0);
        });
        Expect.sentence("Promise 21: of several the least one", () -> {
            Expect.equal("alone", Queues.alone().bestLie(0), 0);
            Expect.equal("the first who would pass", Queues.of(5, 10, 9, 4).bestLie(1), 3);
            Expect.equal("the last who would be passed", Queues.of(5, 10, 9, 4).bestLie(0), 22);
            Expect.equal("all the same to friends", Queues.fullOfFriends().bestLie(9), 0);
            Expect.equal("the same place for 0 and more", Queues.of(0, 1, 0, 1).bestLie(1), 0);
        });
        Expect.sentence("Promise 21: told worths 0 to 99", WhatIfBoundariesTest::lastLies);
        Expect.sentence("Promise 21: it changes nothing", () ->
                changesNothing("bestLie", queue -> queue.bestLie(3)));
    }

    private static void lastLies() {
        Expect.equal("99 alone passes 98", Queues.of(98, 1, 99, 1).bestLie(1), 99);
        Expect.equal("98 alone passes 97", Queues.of(97, 1, 99, 1).bestLie(1), 98);
        Expect.equal("none passes 99", Queues.of(99, 1, 99, 1).bestLie(1), 0);
        ConsentQueue passed = Queues.of(0, 2, 99, 1);
        Expect.equal("98 and 99 are paid the same", passed.bestLie(0), 98);
        passed.setSplit(0);
        Expect.equal("99 is paid most", passed.bestLie(0), 99);
        Expect.equal("1 passes 0", Queues.of(0, 1, 99, 1).bestLie(1), 1);
    }

    // ---- promise 22

    private static void honestCost() {
        Expect.sentence("Promise 22: the cost behind settle(), if all told the truth", () -> {
            Expect.equal("nobody", Queues.empty().honestCost(), 0);
            Expect.equal("one", Queues.alone().honestCost(), 0);
            Expect.equal("two", Queues.of(5, 10, 9, 4).honestCost(), 20);
            Expect.equal("ten", Queues.full().honestCost(), 165);
            Expect.equal("ten friends", Queues.fullOfFriends().honestCost(), 330);
            ConsentQueue queue = Queues.of(5, 10, 9, 4);
            queue.say(0, 99);
            queue.say(1, 0);
            Expect.equal("liars", queue.honestCost(), 20);
            ConsentQueue most = Queues.empty();
            for (int i = 0; i < 10; i++) {
                most.join(99, 30);
            }
            Expect.equal("the greatest", most.honestCost(), 133_650);
        });
        Expect.sentence("Promise 22: it changes nothing", () ->
                changesNothing("honestCost", ConsentQueue::honestCost));
    }

    // ---- promise 23

    private static void disorder() {
        Expect.sentence("Promise 23: greater, not equal", () -> {
            Expect.equal("equal", Queues.of(3, 2, 6, 4).disorder(), 0);
            Expect.equal("greater by 1", Queues.of(3, 2, 5, 3).disorder(), 1);
            Expect.equal("less by 1", Queues.of(1, 1, 0, 1).disorder(), 0);
        });
        Expect.sentence("Promise 23: neighbours or not, by true worths", () -> {
            Expect.equal("nobody", Queues.empty().disorder(), 0);
            Expect.equal("one", Queues.alone().disorder(), 0);
            Expect.equal("the first and the last", Queues.of(2, 1, 0, 1, 3, 1).disorder(), 2);
            Expect.equal("ten", Queues.full().disorder(), 45);
            Expect.equal("ten friends", Queues.fullOfFriends().disorder(), 45);
            ConsentQueue queue = Queues.of(5, 10, 9, 4);
            queue.say(1, 0);
            Expect.equal("liars", queue.disorder(), 1);
        });
        Expect.sentence("Promise 23: it changes nothing", () ->
                changesNothing("disorder", ConsentQueue::disorder));
    }
}
