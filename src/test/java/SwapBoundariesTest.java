/** The boundaries that promises 8 to 13 name, a test for each sentence that names one. */
final class SwapBoundariesTest {
    private static final int NONE = ConsentQueue.NONE;
    private static final int MIN = Integer.MIN_VALUE;
    private static final int MAX = Integer.MAX_VALUE;
    private static final int[] NO_PRICE = {-1, 10_000, MIN, MAX};
    /** Of the members of busy(), 0 was served; 6 would be the next one. */
    private static final int[] NOT_IN_BUSY = {-1, 0, 6, 10, MIN, MAX};
    /** The last of the five places of busy() has none behind it. */
    private static final int[] NO_FRONT_IN_BUSY = {-1, -2, 4, 5, 9, 10, MIN, MAX - 1, MAX};

    private SwapBoundariesTest() {
    }

    public static void main(String[] args) {
        offer();
        take();
        swap();
        befriend();
        part();
        settle();
        Expect.finish();
    }

    // ---- promise 8

    private static void offer() {
        Expect.sentence("Promise 8: price 0 to 9999, let in", () -> {
            ConsentQueue queue = Queues.of(1, 1, 2, 2);
            for (int price : new int[] {0, 1, 9998, 9999}) {
                queue.offer(1, price);
                Expect.equal("made by 1", queue.member(1, 7), price);
                Expect.equal("made to 0", queue.member(0, 8), price);
                Expect.equal("offers", queue.whole(6), 1);
            }
        });
        Expect.sentence("Promise 8: price 0 to 9999, refused", () -> {
            Refusal.arguments("price", Queues::busy, (q, p) -> q.offer(3, p), NO_PRICE);
            Refusal.arguments("price", Queues::busy, (q, p) -> q.offer(5, p), NO_PRICE);
        });
        Expect.sentence("Promise 8: the price that it offered before; NONE if none",
                SwapBoundariesTest::offeredBefore);
        Expect.sentence("Promise 8: refused if there is no such member", () ->
                Refusal.indices("offer", Queues::busy, (q, m) -> q.offer(m, 5), NOT_IN_BUSY));
        Expect.sentence("Promise 8: refused if it is at place 0", () -> {
            Refusal.state("the first of five", Queues::busy, queue -> queue.offer(1, 0));
            Refusal.state("the only one", Queues::alone, queue -> queue.offer(0, 9999));
            Expect.equal("at place 1", Queues.busy().offer(3, 0), 100);
            Expect.equal("at place 9", Queues.full().offer(9, 9999), NONE);
        });
        Expect.sentence("Promise 8: member, then price, then place 0", () -> {
            Refusal.indices("no member", Queues::busy, (q, m) -> q.offer(m, -1), NOT_IN_BUSY);
            Refusal.arguments("price", Queues::busy, (q, p) -> q.offer(1, p), NO_PRICE);
            Refusal.arguments("price", Queues::alone, (q, p) -> q.offer(0, p), NO_PRICE);
            Refusal.index("nobody", Queues::empty, queue -> queue.offer(0, 10_000));
        });
        Expect.sentence("Promise 8: undoable", () -> {
            Undoable.check("offer", Queues::busy, queue -> queue.offer(4, 7));
            Undoable.check("offer another", Queues::busy, queue -> queue.offer(2, 26));
            Undoable.check("offer the same", Queues::busy, queue -> queue.offer(2, 25));
        });
    }

    private static void offeredBefore() {
        ConsentQueue queue = Queues.of(1, 1, 2, 2, 3, 3);
        Expect.equal("none before", queue.offer(1, 0), NONE);
        Expect.equal("0 before", queue.offer(1, 9999), 0);
        Expect.equal("9999 before", queue.offer(1, 5), 9999);
        Expect.equal("the same before", queue.offer(1, 5), 5);
        Expect.equal("none of the other", queue.offer(2, 5), NONE);
        queue.serve();
        queue.joinAt(1, 1, 0);
        Expect.equal("none to another one ahead", queue.offer(1, 5), NONE);
        queue.undo();
        queue.undo();
        queue.undo();
        Expect.equal("what undo() brings back", queue.offer(1, 7), 5);
    }

    // ---- promise 9

    private static void take() {
        Expect.sentence("Promise 9: both swap at the price offered",
                SwapBoundariesTest::takeAtEachEnd);
        Expect.sentence("Promise 9: refused if there is no such member", () -> {
            Refusal.indices("take", Queues::busy, (q, m) -> q.take(m), NOT_IN_BUSY);
            Refusal.index("take of nobody", Queues::empty, queue -> queue.take(0));
        });
        Expect.sentence("Promise 9: refused if no offer is made to it", () -> {
            Refusal.state("none made", Queues::busy, queue -> queue.take(2));
            Refusal.state("to the last", Queues::busy, queue -> queue.take(5));
            Refusal.state("to the only one", Queues::alone, queue -> queue.take(0));
            Refusal.state("to the last of ten", Queues::full, queue -> queue.take(9));
            Refusal.state("of zero loss", () -> Queues.of(0, 1, 0, 1), queue -> queue.take(0));
        });
        Expect.sentence("Promise 9: refused if it would not be taken: price below the loss", () -> {
            Refusal.state("180 needed", Queues::busy, queue -> queue.take(3));
            Refusal.state("one less", () -> offered(30, 39), queue -> queue.take(0));
            Expect.equal("the loss itself", offered(10, 40).take(0), 40);
            Expect.equal("one more", offered(10, 41).take(0), 41);
            Refusal.state("most of all", () -> offered(99, 395), queue -> queue.take(0));
            Expect.equal("and its loss", offered(99, 396).take(0), 396);
            Refusal.state("for nothing", () -> offered(1, 0), queue -> queue.take(0));
            Expect.equal("for nothing, without loss", offered(0, 0).take(0), 0);
        });
        Expect.sentence("Promise 9: refused if it would not be taken: friends",
                SwapBoundariesTest::takeAmongFriends);
        Expect.sentence("Promise 9: undoable", () ->
                Undoable.check("take", Queues::busy, queue -> queue.take(1)));
    }

    /** Member 0 loses 4 times this worth, by what it tells, if member 1 goes ahead. */
    private static ConsentQueue offered(int told, int price) {
        ConsentQueue queue = Queues.of(10, 7, 1, 4);
        queue.say(0, told);
        queue.offer(1, price);
        return queue;
    }

    private static void takeAtEachEnd() {
        ConsentQueue queue = Queues.full();
        queue.offer(1, 9999);
        Expect.equal("the first takes", queue.take(0), 9999);
        queue.offer(9, 9);
        Expect.equal("the last but one takes", queue.take(8), 9);
        Queues.order("taken", queue, 1, 0, 2, 3, 4, 5, 6, 7, 9, 8);
        Expect.equal("payer", queue.member(1, 6), -9999);
        Expect.equal("paid one", queue.member(0, 6), 9999);
        Expect.equal("second payer", queue.member(9, 6), -9);
        Expect.equal("second paid one", queue.member(8, 6), 9);
        Expect.equal("swaps", queue.whole(9), 2);
        Expect.equal("money paid", queue.whole(10), 10_008);
        ConsentQueue unwilling = Queues.of(9, 4, 5, 10);
        unwilling.offer(1, 90);
        Expect.equal("a surplus below 0", unwilling.pair(0, 2), -70);
        Expect.equal("is no hindrance", unwilling.take(0), 90);
    }

    /** Three offer enough; the pair at this place are friends. */
    private static ConsentQueue offersAmongFriends(int place) {
        ConsentQueue queue = Queues.of(1, 1, 2, 1, 3, 1, 4, 1, 5, 1);
        for (int member = 1; member <= 4; member++) {
            queue.offer(member, 100);
        }
        queue.befriend(place);
        return queue;
    }

    private static void takeAmongFriends() {
        Refusal.state("friends of each other", () -> offersAmongFriends(1), q -> q.take(1));
        Refusal.state("the front one's friend", () -> offersAmongFriends(1), q -> q.take(2));
        Refusal.state("the back one's friend", () -> offersAmongFriends(1), q -> q.take(0));
        Expect.equal("friends farther behind", offersAmongFriends(2).take(0), 100);
        Expect.equal("friends farther ahead", offersAmongFriends(0).take(2), 100);
        ConsentQueue parted = offersAmongFriends(1);
        parted.part(1);
        Expect.equal("friends no more", parted.take(1), 100);
    }

    // ---- promise 10

    private static void swap() {
        Expect.sentence("Promise 10: a place with one behind it, let in", () -> {
            Expect.equal("the first two of ten", Queues.full().swap(0), 1);
            ConsentQueue queue = Queues.full();
            Expect.equal("the last two of ten", queue.swap(8), 9);
            Queues.order("swapped", queue, 0, 1, 2, 3, 4, 5, 6, 7, 9, 8);
            Expect.equal("the only two", Queues.of(5, 10, 9, 4).swap(0), 55);
        });
        Expect.sentence("Promise 10: a place with one behind it, refused", () -> {
            Refusal.indices("swap", Queues::busy, (q, p) -> q.swap(p), NO_FRONT_IN_BUSY);
            Refusal.indices("swap", Queues::full, (q, p) -> q.swap(p), 9, 10, -1);
            Refusal.indices("swap", Queues::alone, (q, p) -> q.swap(p), 0, 1, -1);
            Refusal.indices("swap", Queues::empty, (q, p) -> q.swap(p), 0, -1, -2, MIN, MAX);
        });
        Expect.sentence("Promise 10: refused if the surplus is not greater than 0", () -> {
            Refusal.state("a surplus of 0", () -> Queues.of(3, 2, 6, 4), q -> q.swap(0));
            Refusal.state("a surplus of -1", () -> Queues.of(1, 1, 0, 1), q -> q.swap(0));
            Refusal.state("a surplus of 0 of nothing", () -> Queues.of(0, 1, 0, 1),
                    q -> q.swap(0));
            Expect.equal("a surplus of 1", Queues.of(3, 2, 5, 3).swap(0), 9);
            Refusal.state("by what it tells", SwapBoundariesTest::humble, q -> q.swap(0));
        });
        Expect.sentence("Promise 10: refused if friends hold them",
                SwapBoundariesTest::swapAmongFriends);
        Expect.sentence("Promise 10: returns the price, paid by the back one", () -> {
            for (int split : new int[] {0, 33, 50, 99, 100}) {
                pricedBy(split);
            }
        });
        Expect.sentence("Promise 10: undoable", () -> {
            Undoable.check("swap", () -> Queues.of(5, 10, 9, 4), queue -> queue.swap(0));
            Undoable.check("swap of five", Queues::full, queue -> queue.swap(8));
        });
    }

    private static ConsentQueue humble() {
        ConsentQueue queue = Queues.of(5, 10, 9, 4);
        queue.say(1, 2);
        return queue;
    }

    /** Five who would all swap; the pair at this place are friends. */
    private static ConsentQueue friendsAt(int place) {
        ConsentQueue queue = Queues.of(1, 1, 2, 1, 3, 1, 4, 1, 5, 1);
        queue.befriend(place);
        return queue;
    }

    private static void swapAmongFriends() {
        Refusal.state("friends of each other", () -> friendsAt(1), queue -> queue.swap(1));
        Refusal.state("the front one's friend", () -> friendsAt(1), queue -> queue.swap(2));
        Refusal.state("the back one's friend", () -> friendsAt(1), queue -> queue.swap(0));
        Refusal.state("the first two", () -> friendsAt(0), queue -> queue.swap(0));
        Refusal.state("the last two", () -> friendsAt(3), queue -> queue.swap(3));
        Expect.equal("friends farther behind", friendsAt(2).swap(0), 1);
        Expect.equal("friends farther ahead", friendsAt(0).swap(2), 3);
    }

    /** A gain of 7 and a loss of 2: the surplus of 5 goes to the front one by the split. */
    private static void pricedBy(int split) {
        ConsentQueue queue = Queues.of(2, 1, 7, 1);
        queue.setSplit(split);
        int due = 2 + 5 * split / 100;
        Expect.equal("price by " + split, queue.swap(0), due);
        Expect.equal("payer by " + split, queue.member(1, 6), -due);
        Expect.equal("paid one by " + split, queue.member(0, 6), due);
        Expect.equal("money paid by " + split, queue.whole(10), due);
        Expect.equal("swaps by " + split, queue.whole(9), 1);
    }

    // ---- promise 11

    private static void befriend() {
        Expect.sentence("Promise 11: a place with one behind it, let in; pairs then", () -> {
            ConsentQueue queue = Queues.full();
            Expect.equal("the last two", queue.befriend(8), 1);
            Expect.equal("the first two", queue.befriend(0), 2);
            for (int place = 1; place <= 7; place++) {
                Expect.equal("befriend(" + place + ")", queue.befriend(place), place + 2);
            }
            Expect.equal("the only two", Queues.of(1, 1, 2, 2).befriend(0), 1);
        });
        Expect.sentence("Promise 11: a place with one behind it, refused", () -> {
            Refusal.indices("place", Queues::busy, (q, p) -> q.befriend(p), NO_FRONT_IN_BUSY);
            Refusal.indices("place", Queues::fullOfFriends, (q, p) -> q.befriend(p), 9, 10, -1);
            Refusal.indices("place", Queues::alone, (q, p) -> q.befriend(p), 0, 1, -1);
            Refusal.indices("place", Queues::empty, (q, p) -> q.befriend(p), 0, -1, MIN, MAX);
        });
        Expect.sentence("Promise 11: refused if they are friends", () -> {
            Refusal.state("two of five", Queues::busy, queue -> queue.befriend(3));
            for (int place : new int[] {0, 4, 8}) {
                Refusal.state("full", Queues::fullOfFriends, queue -> queue.befriend(place));
            }
        });
        Expect.sentence("Promise 11: undoable", () -> {
            Undoable.check("befriend", Queues::busy, queue -> queue.befriend(2));
            Undoable.check("befriend the first", Queues::busy, queue -> queue.befriend(0));
        });
    }

    // ---- promise 12

    private static void part() {
        Expect.sentence("Promise 12: a place with one behind it, let in; pairs then", () -> {
            ConsentQueue queue = Queues.fullOfFriends();
            Expect.equal("the last two", queue.part(8), 8);
            Expect.equal("the first two", queue.part(0), 7);
            for (int place = 1; place <= 7; place++) {
                Expect.equal("part(" + place + ")", queue.part(place), 7 - place);
            }
        });
        Expect.sentence("Promise 12: a place with one behind it, refused", () -> {
            Refusal.indices("part", Queues::busy, (q, p) -> q.part(p), NO_FRONT_IN_BUSY);
            Refusal.indices("part", Queues::fullOfFriends, (q, p) -> q.part(p), 9, 10, -1);
            Refusal.indices("part", Queues::alone, (q, p) -> q.part(p), 0, 1, -1);
            Refusal.indices("part", Queues::empty, (q, p) -> q.part(p), 0, -1, -2, MIN, MAX);
        });
        Expect.sentence("Promise 12: refused if they are no friends", () -> {
            for (int place = 0; place <= 2; place++) {
                int front = place;
                Refusal.state("part(" + place + ")", Queues::busy, queue -> queue.part(front));
            }
            Refusal.state("the last of ten", Queues::full, queue -> queue.part(8));
        });
        Expect.sentence("Promise 12: undoable", () ->
                Undoable.check("part", Queues::busy, queue -> queue.part(3)));
    }

    // ---- promise 13

    private static void settle() {
        Expect.sentence("Promise 13: returns the number of swaps", () -> {
            Expect.equal("of nobody", Queues.empty().settle(), 0);
            Expect.equal("of one", Queues.alone().settle(), 0);
            Expect.equal("of two", Queues.of(5, 10, 9, 4).settle(), 1);
            Expect.equal("of a settled two", Queues.of(9, 4, 5, 10).settle(), 0);
            ConsentQueue queue = Queues.full();
            Expect.equal("of ten, the most", queue.settle(), 45);
            Expect.equal("of a settled ten", queue.settle(), 0);
            Expect.equal("in all", queue.whole(9), 45);
        });
        Expect.sentence("Promise 13: until no two neighbours would swap",
                SwapBoundariesTest::settledOrders);
        Expect.sentence("Promise 13: at the fair price", SwapBoundariesTest::settlingPrices);
        Expect.sentence("Promise 13: undoable", () -> {
            Undoable.check("settle", Queues::full, ConsentQueue::settle);
            Undoable.check("settle five", Queues::busy, ConsentQueue::settle);
            Undoable.check("settle nobody", Queues::empty, ConsentQueue::settle);
            Undoable.check("settle two who would not", () -> Queues.of(9, 4, 5, 10),
                    ConsentQueue::settle);
        });
    }

    private static void settledOrders() {
        ConsentQueue equal = Queues.of(3, 2, 6, 4, 9, 6);
        Expect.equal("a surplus of 0 is no reason", equal.settle(), 0);
        ConsentQueue close = Queues.of(3, 2, 5, 3);
        Expect.equal("a surplus of 1 is one", close.settle(), 1);
        ConsentQueue queue = Queues.of(1, 1, 3, 1, 1, 1, 3, 1);
        Expect.equal("equal ones do not pass each other", queue.settle(), 3);
        Queues.order("settled", queue, 1, 3, 0, 2);
        ConsentQueue held = Queues.of(1, 1, 2, 1, 3, 1, 4, 1, 5, 1, 6, 1);
        held.befriend(2);
        Expect.equal("friends stand still", held.settle(), 2);
        Queues.order("settled about friends", held, 1, 0, 2, 3, 5, 4);
        ConsentQueue first = Queues.of(1, 1, 2, 1, 3, 1, 4, 1);
        first.befriend(0);
        Expect.equal("friends at the front", first.settle(), 1);
        Queues.order("settled behind friends", first, 0, 1, 3, 2);
        ConsentQueue last = Queues.of(1, 1, 2, 1, 3, 1, 4, 1);
        last.befriend(2);
        Expect.equal("friends at the end", last.settle(), 1);
        Queues.order("settled ahead of friends", last, 1, 0, 2, 3);
    }

    private static void settlingPrices() {
        ConsentQueue queue = Queues.of(99, 1, 0, 30);
        queue.say(0, 0);
        queue.say(1, 99);
        queue.setSplit(100);
        Expect.equal("one swap", queue.settle(), 1);
        Expect.equal("paid", queue.member(0, 6), 99);
        Expect.equal("payer", queue.member(1, 6), -99);
        Expect.equal("paid in all", queue.whole(10), 99);
        ConsentQueue free = Queues.of(0, 1, 1, 1);
        Expect.equal("a swap for nothing", free.settle(), 1);
        Expect.equal("half a coin is rounded down", free.whole(10), 0);
        ConsentQueue most = Queues.of(0, 30, 99, 30);
        most.setSplit(100);
        Expect.equal("a dear swap", most.settle(), 1);
        Expect.equal("the dearest", most.whole(10), 2970);
    }
}
