/** The boundaries that promises 14 to 18 name, a test for each sentence that names one. */
final class ValueBoundariesTest {
    private static final int NONE = ConsentQueue.NONE;
    private static final int MIN = Integer.MIN_VALUE;
    private static final int MAX = Integer.MAX_VALUE;
    /** Of the members of busy(), 0 was served; 6 would be the next one. */
    private static final int[] NOT_IN_BUSY = {-1, 0, 6, 10, MIN, MAX};
    /** The last of the five places of busy() has none behind it. */
    private static final int[] NO_FRONT_IN_BUSY = {-1, -2, 4, 5, 9, 10, MIN, MAX - 1, MAX};

    private ValueBoundariesTest() {
    }

    public static void main(String[] args) {
        member();
        at();
        pair();
        whole();
        reason();
        Expect.finish();
    }

    // ---- promise 14

    private static void member() {
        Expect.sentence("Promise 14: refused if there is no such member", () -> {
            for (int what = 0; what <= 9; what++) {
                int asked = what;
                Refusal.indices("member", Queues::busy, (q, m) -> q.member(m, asked), NOT_IN_BUSY);
            }
            Refusal.indices("member", Queues::full, (q, m) -> q.member(m, 0), -1, 10);
        });
        Expect.sentence("Promise 14: refused if what is out of range", () -> {
            Refusal.arguments("what", Queues::busy, (q, w) -> q.member(1, w), -1, 10, MIN, MAX);
            Refusal.arguments("what", Queues::full, (q, w) -> q.member(9, w), -1, 10);
        });
        Expect.sentence("Promise 14: a wrong member comes before a wrong what", () -> {
            Refusal.indices("member", Queues::busy, (q, m) -> q.member(m, 10), NOT_IN_BUSY);
            Refusal.indices("member", Queues::empty, (q, m) -> q.member(m, -1), -1, 0, 1);
        });
        Expect.sentence("Promise 14: each value of each member", ValueBoundariesTest::busyMembers);
        Expect.sentence("Promise 14: the values of who stands alone", () ->
                values("alone", Queues.alone(), 0, 0, 5, 5, 10, 0, 0, 0, NONE, NONE, 0));
        Expect.sentence("Promise 14: the least and greatest values", () -> {
            values("the first", mostWaiting(), 0, 0, 99, 0, 30, 0, 0, 9999, NONE, 9999, 1);
            values("the ninth", mostWaiting(), 8, 8, 99, 99, 30, 240, 23_760, 0, NONE, 0, 1);
            values("the last", mostWaiting(), 9, 9, 99, 0, 30, 270, 26_730, 0, 0, NONE, 0);
            values("the second", mostWaiting(), 1, 1, 99, 99, 30, 30, 2970, -9999, 9999, NONE, 2);
        });
    }

    private static void values(String what, ConsentQueue queue, int member, int... due) {
        for (int value = 0; value <= 9; value++) {
            Expect.equal(what + ", member(" + member + ", " + value + ")",
                    queue.member(member, value), due[value]);
        }
    }

    private static void busyMembers() {
        ConsentQueue queue = Queues.busy();
        values("first", queue, 1, 0, 9, 9, 4, 0, 0, 0, NONE, 100, 0);
        values("second", queue, 3, 1, 30, 30, 2, 4, 120, -74, 100, 25, 0);
        values("third", queue, 2, 2, 2, 3, 6, 6, 12, 74, 25, NONE, 0);
        values("fourth", queue, 4, 3, 40, 40, 3, 12, 480, 0, NONE, NONE, 1);
        values("fifth", queue, 5, 4, 1, 1, 1, 15, 15, 0, NONE, NONE, 1);
    }

    /** Ten who wait as long as can be; 1 paid for going ahead, and then let 0 back for nothing. */
    private static ConsentQueue mostWaiting() {
        ConsentQueue queue = new ConsentQueue();
        for (int i = 0; i < 10; i++) {
            queue.join(99, 30);
        }
        queue.offer(1, 9999);
        queue.take(0);
        queue.say(1, 0);
        queue.offer(0, 0);
        queue.take(1);
        queue.say(1, 99);
        queue.say(0, 0);
        queue.say(9, 0);
        queue.offer(1, 9999);
        queue.offer(9, 0);
        queue.befriend(0);
        queue.befriend(1);
        queue.befriend(7);
        return queue;
    }

    // ---- promise 15

    private static void at() {
        Expect.sentence("Promise 15: NONE if there are not so many", () -> {
            ConsentQueue queue = Queues.full();
            Expect.equal("at(0)", queue.at(0), 0);
            Expect.equal("at(9)", queue.at(9), 9);
            for (int place : new int[] {10, 11, 1000, MAX - 1, MAX}) {
                Expect.equal("at(" + place + ")", queue.at(place), NONE);
            }
            queue.leave(9);
            Expect.equal("at(9), nobody now", queue.at(9), NONE);
            Expect.equal("at(8), still", queue.at(8), 8);
            Expect.equal("at(0) of nobody", Queues.empty().at(0), NONE);
            Expect.equal("at(MAX) of nobody", Queues.empty().at(MAX), NONE);
        });
        Expect.sentence("Promise 15: refused if place is negative", () -> {
            Refusal.arguments("at", Queues::busy, (q, p) -> q.at(p), -1, -2, -10, MIN);
            Refusal.arguments("at", Queues::empty, (q, p) -> q.at(p), -1, MIN);
        });
    }

    // ---- promise 16

    private static void pair() {
        Expect.sentence("Promise 16: a place with one behind it", () -> {
            for (int what = 0; what <= 4; what++) {
                int asked = what;
                Refusal.indices("place", Queues::busy, (q, p) -> q.pair(p, asked),
                        NO_FRONT_IN_BUSY);
                Refusal.indices("place", Queues::alone, (q, p) -> q.pair(p, asked), 0, 1, -1);
            }
            Refusal.indices("place", Queues::full, (q, p) -> q.pair(p, 0), 9, 10, -1);
            Expect.equal("the last two of ten", Queues.full().pair(8, 0), 10);
            Expect.equal("the first two of ten", Queues.full().pair(0, 0), 2);
        });
        Expect.sentence("Promise 16: refused if what is out of range", () -> {
            Refusal.arguments("what", Queues::busy, (q, w) -> q.pair(0, w), -1, 5, MIN, MAX);
            Refusal.arguments("what", Queues::full, (q, w) -> q.pair(8, w), -1, 5);
        });
        Expect.sentence("Promise 16: a wrong place comes before a wrong what", () -> {
            Refusal.indices("pair", Queues::busy, (q, p) -> q.pair(p, 5), NO_FRONT_IN_BUSY);
            Refusal.indices("pair", Queues::empty, (q, p) -> q.pair(p, -1), -1, 0, 1);
        });
        Expect.sentence("Promise 16: NONE if the surplus is not greater than 0", () -> {
            pairOf("a surplus of 1", Queues.of(3, 2, 5, 3), 10, 9, 1, 9);
            pairOf("a surplus of 0", Queues.of(3, 2, 6, 4), 12, 12, 0, NONE);
            pairOf("a surplus of -1", Queues.of(1, 1, 0, 1), 0, 1, -1, NONE);
            pairOf("nothing", Queues.of(0, 30, 0, 30), 0, 0, 0, NONE);
            pairOf("the greatest", Queues.of(0, 30, 99, 30), 2970, 0, 2970, 1485);
            pairOf("the least", Queues.of(99, 30, 0, 30), 0, 2970, -2970, NONE);
            pairOf("a price of 0", Queues.of(0, 1, 1, 1), 1, 0, 1, 0);
        });
        Expect.sentence("Promise 16: 1 if they are friends or 0 if not", () -> {
            ConsentQueue queue = Queues.full();
            queue.befriend(0);
            queue.befriend(8);
            for (int place = 0; place <= 8; place++) {
                int due = place == 0 || place == 8 ? 1 : 0;
                Expect.equal("pair(" + place + ", 4)", queue.pair(place, 4), due);
            }
            Expect.equal("friends have a fair price, too", queue.pair(8, 3), 9);
        });
        Expect.sentence("Promise 16: the fair price, rounded down, by the split", () -> {
            ConsentQueue queue = Queues.of(2, 1, 7, 1);
            for (int split = 0; split <= 100; split++) {
                queue.setSplit(split);
                Expect.equal("split " + split, queue.pair(0, 3), 2 + 5 * split / 100);
            }
        });
    }

    private static void pairOf(String what, ConsentQueue queue, int... due) {
        for (int value = 0; value <= 3; value++) {
            Expect.equal(what + ", pair(0, " + value + ")", queue.pair(0, value), due[value]);
        }
    }

    // ---- promise 17

    private static void whole() {
        Expect.sentence("Promise 17: refused if what is out of range", () -> {
            Refusal.arguments("what", Queues::busy, (q, w) -> q.whole(w), -1, 14, MIN, MAX);
            Refusal.arguments("what", Queues::empty, (q, w) -> q.whole(w), -1, 14);
            Refusal.arguments("what", Queues::fullOfFriends, (q, w) -> q.whole(w), -1, 14);
        });
        Expect.sentence("Promise 17: the values of an empty queue", () ->
                wholes("empty", Queues.empty(), 0, 50, 0, 0, 0, 0, 0, 0, 0, 0, 0, 0, 0, 0));
        Expect.sentence("Promise 17: the values of one member", () ->
                wholes("alone", Queues.alone(), 1, 50, 0, 0, 0, 0, 0, 0, 0, 0, 0, 0, 1, 0));
        Expect.sentence("Promise 17: the values of some", () ->
                wholes("busy", Queues.busy(),
                        5, 40, 627, 633, 154, 1, 2, 1, 1, 1, 74, 1, 6, 22));
        Expect.sentence("Promise 17: the greatest values", () -> {
            wholes("all would swap", allOffer(),
                    10, 50, 330, 330, 165, 9, 9, 9, 0, 0, 0, 0, 10, 150);
            wholes("all are friends", Queues.fullOfFriends(),
                    10, 50, 330, 330, 165, 0, 0, 0, 9, 0, 0, 0, 10, 150);
            wholes("the longest times", longest(),
                    10, 50, 133_650, 0, 133_650, 0, 0, 0, 0, 0, 0, 0, 10, 0);
        });
        Expect.sentence("Promise 17: best cost, whatever the friends, by true worths",
                ValueBoundariesTest::bestCosts);
        Expect.sentence("Promise 17: offers that would be taken, at the loss itself", () -> {
            ConsentQueue queue = Queues.of(10, 7, 1, 4, 2, 5);
            queue.offer(1, 39);
            queue.offer(2, 5);
            Expect.equal("one of two", queue.whole(7), 1);
            queue.offer(1, 40);
            Expect.equal("both", queue.whole(7), 2);
            queue.befriend(0);
            Expect.equal("friends take none, nor who is held by them", queue.whole(7), 0);
            Expect.equal("they stand", queue.whole(6), 2);
        });
    }

    private static void wholes(String what, ConsentQueue queue, int... due) {
        for (int value = 0; value <= 13; value++) {
            Expect.equal(what + ", whole(" + value + ")", queue.whole(value), due[value]);
        }
    }

    private static ConsentQueue allOffer() {
        ConsentQueue queue = Queues.full();
        for (int member = 1; member <= 9; member++) {
            queue.offer(member, 9999);
        }
        Queues.type(queue, " ".repeat(150));
        return queue;
    }

    private static ConsentQueue longest() {
        ConsentQueue queue = new ConsentQueue();
        for (int member = 0; member < 10; member++) {
            queue.join(99, 30);
            queue.say(member, 0);
        }
        return queue;
    }

    private static void bestCosts() {
        ConsentQueue queue = Queues.fullOfFriends();
        Expect.equal("of ten friends", queue.whole(4), 165);
        queue.say(0, 99);
        Expect.equal("of a liar among them", queue.whole(4), 165);
        Expect.equal("of two", Queues.of(5, 10, 9, 4).whole(4), 20);
        Expect.equal("of two in order", Queues.of(9, 4, 5, 10).whole(4), 20);
        Expect.equal("of two equal ones", Queues.of(3, 2, 6, 4).whole(4), 12);
        Expect.equal("of worthless ones", Queues.of(0, 30, 0, 30).whole(4), 0);
        Expect.equal("one worthless", Queues.of(0, 30, 99, 30).whole(4), 0);
    }

    // ---- promise 18

    private static void reason() {
        Expect.sentence("Promise 18: a place with one behind it", () -> {
            Refusal.indices("reason", Queues::busy, (q, p) -> q.reason(p), NO_FRONT_IN_BUSY);
            Refusal.indices("reason", Queues::full, (q, p) -> q.reason(p), 9, 10, -1);
            Refusal.indices("reason", Queues::alone, (q, p) -> q.reason(p), 0, 1, -1);
            Refusal.indices("reason", Queues::empty, (q, p) -> q.reason(p), 0, -1, -2, MIN, MAX);
            Expect.equal("the first two", Queues.full().reason(0), 0);
            Expect.equal("the last two", Queues.full().reason(8), 0);
        });
        Expect.sentence("Promise 18: 4 if the surplus is not greater than 0", () -> {
            Expect.equal("a surplus of 1", Queues.of(3, 2, 5, 3).reason(0), 0);
            Expect.equal("a surplus of 0", Queues.of(3, 2, 6, 4).reason(0), 4);
            Expect.equal("a surplus of -1", Queues.of(1, 1, 0, 1).reason(0), 4);
        });
        Expect.sentence("Promise 18: the first of these that applies",
                ValueBoundariesTest::firstReasons);
    }

    /** All sets of friendships about the pair at place 1, with and without a surplus. */
    private static void firstReasons() {
        for (int friends = 0; friends < 8; friends++) {
            for (int surplus = 0; surplus <= 1; surplus++) {
                ConsentQueue queue = Queues.of(1, 1, 5, 1, 5 + surplus, 1, 9, 1);
                if ((friends & 1) != 0) {
                    queue.befriend(0);
                }
                if ((friends & 2) != 0) {
                    queue.befriend(1);
                }
                if ((friends & 4) != 0) {
                    queue.befriend(2);
                }
                int due = (friends & 2) != 0 ? 1 : (friends & 1) != 0 ? 2
                        : (friends & 4) != 0 ? 3 : surplus > 0 ? 0 : 4;
                String what = "friends " + friends + ", surplus " + surplus;
                Expect.equal(what, queue.reason(1), due);
                Expect.equal(what + ", would swap", queue.whole(5),
                        friends == 0 ? 2 + surplus : friends == 1 || friends == 4 ? 1 : 0);
            }
        }
    }
}
