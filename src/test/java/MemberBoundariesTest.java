/** The boundaries that promises 1 to 7 name, a test for each sentence that names one. */
final class MemberBoundariesTest {
    private static final int NONE = ConsentQueue.NONE;
    private static final int MIN = Integer.MIN_VALUE;
    private static final int MAX = Integer.MAX_VALUE;
    private static final int[] NO_WORTH = {-1, 100, MIN, MAX};
    private static final int[] NO_SERVICE = {0, 31, -1, MIN, MAX};
    /** Of the members of busy(), 0 was served; 6 would be the next one. */
    private static final int[] NOT_IN_BUSY = {-1, 0, 6, 10, MIN, MAX};

    private MemberBoundariesTest() {
    }

    public static void main(String[] args) {
        newObject();
        join();
        joinAt();
        leave();
        serve();
        say();
        setSplit();
        Expect.finish();
    }

    // ---- promise 1

    private static void newObject() {
        Expect.sentence("Promise 1: an empty queue", MemberBoundariesTest::emptyQueue);
        Expect.sentence("Promise 1: no place", MemberBoundariesTest::noPlace);
        Expect.sentence("Promise 1: no member", MemberBoundariesTest::noMember);
        Expect.sentence("Promise 1: the split 50", () ->
                Expect.equal("setSplit(1)", Queues.empty().setSplit(1), 50));
        Expect.sentence("Promise 1: an empty command text", MemberBoundariesTest::emptyText);
        Expect.sentence("Promise 1: an empty undo stack", () ->
                Refusal.state("undo()", Queues::empty, ConsentQueue::undo));
    }

    private static void emptyQueue() {
        ConsentQueue queue = Queues.empty();
        for (int what = 0; what <= 13; what++) {
            Expect.equal("whole(" + what + ")", queue.whole(what), what == 1 ? 50 : 0);
        }
        Expect.equal("at(0)", queue.at(0), NONE);
        Expect.equal("settle()", queue.settle(), 0);
        Expect.equal("honestCost()", queue.honestCost(), 0);
        Expect.equal("disorder()", queue.disorder(), 0);
        Refusal.state("serve()", Queues::empty, ConsentQueue::serve);
    }

    private static void noPlace() {
        Refusal.index("swap(0)", Queues::empty, queue -> queue.swap(0));
        Refusal.index("befriend(0)", Queues::empty, queue -> queue.befriend(0));
        Refusal.index("part(0)", Queues::empty, queue -> queue.part(0));
        Refusal.index("pair(0, 0)", Queues::empty, queue -> queue.pair(0, 0));
        Refusal.index("reason(0)", Queues::empty, queue -> queue.reason(0));
    }

    private static void noMember() {
        Refusal.index("leave(0)", Queues::empty, queue -> queue.leave(0));
        Refusal.index("say(0, 0)", Queues::empty, queue -> queue.say(0, 0));
        Refusal.index("offer(0, 0)", Queues::empty, queue -> queue.offer(0, 0));
        Refusal.index("take(0)", Queues::empty, queue -> queue.take(0));
        Refusal.index("member(0, 0)", Queues::empty, queue -> queue.member(0, 0));
        Refusal.index("settledPlace(0)", Queues::empty, queue -> queue.settledPlace(0));
        Refusal.index("profit(0, 0)", Queues::empty, queue -> queue.profit(0, 0));
        Refusal.index("bestLie(0)", Queues::empty, queue -> queue.bestLie(0));
        Refusal.index("member(-1, 0)", Queues::empty, queue -> queue.member(-1, 0));
    }

    private static void emptyText() {
        ConsentQueue queue = Queues.empty();
        Expect.equal("clearCommands()", queue.clearCommands(), 0);
        Expect.equal("runCommands()", queue.runCommands(), 0);
        Expect.equal("type()", queue.type(' '), 1);
    }

    // ---- promise 2

    private static void join() {
        Expect.sentence("Promise 2: worth 0 to 99, let in", MemberBoundariesTest::joinWorths);
        Expect.sentence("Promise 2: worth 0 to 99, refused", () -> {
            Refusal.arguments("worth", Queues::busy, (queue, w) -> queue.join(w, 1), NO_WORTH);
            Refusal.arguments("worth", Queues::empty, (queue, w) -> queue.join(w, 30), NO_WORTH);
        });
        Expect.sentence("Promise 2: service 1 to 30, let in", MemberBoundariesTest::joinServices);
        Expect.sentence("Promise 2: service 1 to 30, refused", () -> {
            Refusal.arguments("time", Queues::busy, (queue, s) -> queue.join(0, s), NO_SERVICE);
            Refusal.arguments("time", Queues::empty, (queue, s) -> queue.join(99, s), NO_SERVICE);
        });
        Expect.sentence("Promise 2: at the end", MemberBoundariesTest::joinsAtTheEnd);
        Expect.sentence("Promise 2: returns its number", MemberBoundariesTest::joinNumbers);
        Expect.sentence("Promise 2: refused if there are 10", MemberBoundariesTest::joinTen);
        Expect.sentence("Promise 2: a wrong argument comes before 10 members", () -> {
            Refusal.arguments("worth", Queues::full, (queue, w) -> queue.join(w, 1), NO_WORTH);
            Refusal.arguments("time", Queues::full, (queue, s) -> queue.join(1, s), NO_SERVICE);
        });
        Expect.sentence("Promise 2: a member begins anew", () ->
                beginsAnew(queue -> queue.join(7, 8)));
        Expect.sentence("Promise 2: undoable", () -> {
            Undoable.check("join", Queues::busy, queue -> queue.join(0, 1));
            Undoable.check("join the first", Queues::empty, queue -> queue.join(99, 30));
        });
    }

    private static void joinWorths() {
        for (int worth : new int[] {0, 1, 98, 99}) {
            ConsentQueue queue = Queues.alone();
            Expect.equal("join(" + worth + ", 1)", queue.join(worth, 1), 1);
            Expect.equal("worth", queue.member(1, 1), worth);
            Expect.equal("told worth", queue.member(1, 2), worth);
            Expect.equal("cost", queue.member(1, 5), 10 * worth);
        }
    }

    private static void joinServices() {
        for (int service : new int[] {1, 2, 29, 30}) {
            ConsentQueue queue = new ConsentQueue();
            Expect.equal("join(99, " + service + ")", queue.join(99, service), 0);
            Expect.equal("service time", queue.member(0, 3), service);
            queue.join(0, 1);
            Expect.equal("wait of the next", queue.member(1, 4), service);
        }
    }

    private static void joinsAtTheEnd() {
        ConsentQueue queue = new ConsentQueue();
        for (int number = 0; number < 10; number++) {
            queue.join(number, 1);
            Expect.equal("place of " + number, queue.member(number, 0), number);
            Expect.equal("none behind " + number, queue.at(number + 1), NONE);
        }
    }

    private static void joinNumbers() {
        ConsentQueue queue = new ConsentQueue();
        Expect.equal("the first", queue.join(1, 1), 0);
        Expect.equal("the next", queue.join(1, 1), 1);
        queue.leave(1);
        Expect.equal("behind leave(1)", queue.join(1, 1), 2);
        queue.serve();
        queue.serve();
        Expect.equal("behind all are served", queue.join(1, 1), 3);
        queue.undo();
        Expect.equal("behind undo()", queue.join(1, 1), 3);
    }

    private static void joinTen() {
        ConsentQueue queue = Queues.full();
        Expect.equal("ten", queue.whole(0), 10);
        Expect.equal("the tenth", queue.at(9), 9);
        Refusal.state("the eleventh", Queues::full, full -> full.join(0, 1));
        Refusal.state("among friends", Queues::fullOfFriends, full -> full.join(99, 30));
        queue.leave(4);
        Expect.equal("room for one", queue.join(1, 1), 10);
        Expect.badState("and no more", () -> queue.join(1, 1));
        queue.serve();
        Expect.equal("room by serve()", queue.join(1, 1), 11);
        queue.undo();
        Expect.equal("room by undo()", queue.join(1, 1), 11);
        Expect.badState("full again", () -> queue.join(1, 1));
    }

    /** Who was there before it (with money, a lie, an offer and friends) leaves it nothing. */
    private static void beginsAnew(Refusal.Call joining) {
        ConsentQueue queue = Queues.of(5, 10, 9, 4);
        queue.swap(0);
        queue.say(0, 80);
        queue.offer(0, 70);
        queue.befriend(0);
        queue.leave(0);
        int number = (int) joining.on(queue);
        int[] due = {queue.member(number, 0), 7, 7, 8, queue.member(number, 4),
            queue.member(number, 5), 0, NONE, NONE, 0};
        for (int what = 0; what < due.length; what++) {
            Expect.equal("member(" + number + ", " + what + ")", queue.member(number, what),
                    due[what]);
        }
    }

    // ---- promise 3

    private static void joinAt() {
        Expect.sentence("Promise 3: worth 0 to 99", () -> {
            joinAtLetsIn(0, 1, 1);
            joinAtLetsIn(99, 1, 1);
            Refusal.arguments("worth", Queues::busy, (q, w) -> q.joinAt(w, 1, 0), NO_WORTH);
        });
        Expect.sentence("Promise 3: service 1 to 30", () -> {
            joinAtLetsIn(1, 1, 0);
            joinAtLetsIn(1, 30, 0);
            Refusal.arguments("time", Queues::busy, (q, s) -> q.joinAt(1, s, 0), NO_SERVICE);
        });
        Expect.sentence("Promise 3: place 0 to the number of members, let in", () -> {
            for (int place = 0; place <= 9; place++) {
                joinAtLetsIn(1, 1, place);
            }
            Expect.equal("into an empty queue", Queues.empty().joinAt(1, 1, 0), 0);
        });
        Expect.sentence("Promise 3: place 0 to the number of members, refused", () -> {
            Refusal.arguments("place", Queues::busy, (q, p) -> q.joinAt(1, 1, p),
                    -1, 6, 7, 10, MIN, MAX);
            Refusal.arguments("place", Queues::empty, (q, p) -> q.joinAt(1, 1, p),
                    -1, 1, MIN, MAX);
            Refusal.arguments("place", Queues::alone, (q, p) -> q.joinAt(1, 1, p), -1, 2);
        });
        Expect.sentence("Promise 3: refused if there are 10", MemberBoundariesTest::joinAtTen);
        Expect.sentence("Promise 3: refused if it would part friends",
                MemberBoundariesTest::joinAtFriends);
        Expect.sentence("Promise 3: a wrong argument comes before a wrong state",
                MemberBoundariesTest::joinAtOrderOfExceptions);
        Expect.sentence("Promise 3: a member begins anew", () -> {
            beginsAnew(queue -> queue.joinAt(7, 8, 0));
            beginsAnew(queue -> queue.joinAt(7, 8, 1));
        });
        Expect.sentence("Promise 3: undoable", () -> {
            Undoable.check("joinAt the front", Queues::busy, queue -> queue.joinAt(1, 1, 0));
            Undoable.check("joinAt between", Queues::busy, queue -> queue.joinAt(1, 1, 2));
            Undoable.check("joinAt the end", Queues::busy, queue -> queue.joinAt(1, 1, 5));
        });
    }

    /** One joins a queue of nine, and those from its place on move back. */
    private static void joinAtLetsIn(int worth, int service, int place) {
        ConsentQueue queue = Queues.of(0, 1, 1, 1, 2, 1, 3, 1, 4, 1, 5, 1, 6, 1, 7, 1, 8, 1);
        Expect.equal("joinAt place " + place, queue.joinAt(worth, service, place), 9);
        Expect.equal("its place", queue.member(9, 0), place);
        Expect.equal("its worth", queue.member(9, 1), worth);
        Expect.equal("its told worth", queue.member(9, 2), worth);
        Expect.equal("its service time", queue.member(9, 3), service);
        for (int number = 0; number < 9; number++) {
            int due = number < place ? number : number + 1;
            Expect.equal("place of " + number, queue.member(number, 0), due);
            Expect.equal("worth of " + number, queue.member(number, 1), number);
        }
    }

    private static void joinAtTen() {
        for (int place : new int[] {0, 5, 10}) {
            Refusal.state("joinAt " + place, Queues::full, queue -> queue.joinAt(1, 1, place));
        }
        ConsentQueue queue = Queues.full();
        queue.serve();
        Expect.equal("room again", queue.joinAt(1, 1, 9), 10);
        Expect.badState("full again", () -> queue.joinAt(1, 1, 10));
    }

    private static ConsentQueue threeFriends() {
        ConsentQueue queue = Queues.of(1, 1, 2, 1, 3, 1, 4, 1, 5, 1);
        queue.befriend(1);
        queue.befriend(2);
        return queue;
    }

    private static ConsentQueue twoFriends() {
        ConsentQueue queue = Queues.of(1, 1, 2, 1);
        queue.befriend(0);
        return queue;
    }

    private static void joinAtFriends() {
        Refusal.state("between the first two", MemberBoundariesTest::threeFriends,
                queue -> queue.joinAt(1, 1, 2));
        Refusal.state("between the last two", MemberBoundariesTest::threeFriends,
                queue -> queue.joinAt(1, 1, 3));
        Refusal.state("between the only two", MemberBoundariesTest::twoFriends,
                queue -> queue.joinAt(1, 1, 1));
        ConsentQueue ahead = threeFriends();
        Expect.equal("ahead of friends", ahead.joinAt(1, 1, 1), 5);
        Expect.equal("they stay friends", ahead.whole(8), 2);
        ConsentQueue behind = threeFriends();
        Expect.equal("behind friends", behind.joinAt(1, 1, 4), 5);
        Expect.equal("they stay friends too", behind.whole(8), 2);
        ConsentQueue first = twoFriends();
        Expect.equal("ahead of all", first.joinAt(1, 1, 0), 2);
        Expect.equal("behind all", first.joinAt(1, 1, 3), 3);
        Expect.equal("friends at places 1 and 2", first.pair(1, 4), 1);
        first.part(1);
        Expect.equal("between who are parted", first.joinAt(1, 1, 2), 4);
    }

    private static void joinAtOrderOfExceptions() {
        Refusal.arguments("place in a full queue", Queues::full, (q, p) -> q.joinAt(1, 1, p),
                -1, 11, MIN, MAX);
        Refusal.arguments("worth among friends", Queues::fullOfFriends,
                (q, w) -> q.joinAt(w, 1, 5), NO_WORTH);
        Refusal.arguments("time among friends", MemberBoundariesTest::threeFriends,
                (q, s) -> q.joinAt(1, s, 2), NO_SERVICE);
        Refusal.state("full, between friends", Queues::fullOfFriends, q -> q.joinAt(1, 1, 5));
    }

    // ---- promise 4

    private static void leave() {
        Expect.sentence("Promise 4: returns the place that it had",
                MemberBoundariesTest::leavePlaces);
        Expect.sentence("Promise 4: refused if there is no such member", () -> {
            Refusal.indices("leave", Queues::busy, (q, m) -> q.leave(m), NOT_IN_BUSY);
            Refusal.indices("leave", Queues::full, (q, m) -> q.leave(m), -1, 10);
            Refusal.indices("leave", MemberBoundariesTest::undoneJoin, (q, m) -> q.leave(m), 1);
            Refusal.indices("leave", MemberBoundariesTest::allLeft, (q, m) -> q.leave(m), 0, 1);
        });
        Expect.sentence("Promise 4: who leaves is not served", () -> {
            ConsentQueue queue = Queues.alone();
            queue.leave(0);
            Expect.equal("whole(11)", queue.whole(11), 0);
            Expect.equal("whole(12)", queue.whole(12), 1);
        });
        Expect.sentence("Promise 4: undoable", () -> {
            for (int member = 1; member <= 5; member++) {
                int leaver = member;
                Undoable.check("leave " + member, Queues::busy, queue -> queue.leave(leaver));
            }
            Undoable.check("leave as the last", Queues::alone, queue -> queue.leave(0));
        });
    }

    private static ConsentQueue undoneJoin() {
        ConsentQueue queue = Queues.of(1, 1, 2, 2);
        queue.undo();
        return queue;
    }

    private static ConsentQueue allLeft() {
        ConsentQueue queue = Queues.of(1, 1, 2, 2);
        queue.leave(0);
        queue.serve();
        return queue;
    }

    private static void leavePlaces() {
        ConsentQueue queue = Queues.full();
        Expect.equal("the last", queue.leave(9), 9);
        Expect.equal("the first", queue.leave(0), 0);
        Queues.order("two left", queue, 1, 2, 3, 4, 5, 6, 7, 8);
        Expect.equal("one between", queue.leave(4), 3);
        Queues.order("three left", queue, 1, 2, 3, 5, 6, 7, 8);
        Expect.equal("the only one", Queues.alone().leave(0), 0);
    }

    // ---- promise 5

    private static void serve() {
        Expect.sentence("Promise 5: the member at place 0 leaves", MemberBoundariesTest::serveAll);
        Expect.sentence("Promise 5: refused if the queue is empty", () -> {
            Refusal.state("serve()", Queues::empty, ConsentQueue::serve);
            Refusal.state("serve() when all left", MemberBoundariesTest::allLeft,
                    ConsentQueue::serve);
        });
        Expect.sentence("Promise 5: undoable", () -> {
            Undoable.check("serve", Queues::busy, ConsentQueue::serve);
            Undoable.check("serve the only one", Queues::alone, ConsentQueue::serve);
        });
    }

    private static void serveAll() {
        ConsentQueue queue = new ConsentQueue();
        for (int number = 0; number < 10; number++) {
            queue.joinAt(1, 1, 0);
        }
        for (int number = 9; number >= 0; number--) {
            Expect.equal("serve()", queue.serve(), number);
            Expect.equal("members", queue.whole(0), number);
            Expect.equal("served in all", queue.whole(11), 10 - number);
        }
        Expect.badState("nobody is left", () -> queue.serve());
    }

    // ---- promise 6

    private static void say() {
        Expect.sentence("Promise 6: worth 0 to 99, let in", () -> {
            ConsentQueue queue = Queues.of(50, 5, 20, 5);
            Expect.equal("say(0, 0)", queue.say(0, 0), 50);
            Expect.equal("say(0, 99)", queue.say(0, 99), 0);
            Expect.equal("say(0, 50)", queue.say(0, 50), 99);
            Expect.equal("the worth stays", queue.member(0, 1), 50);
            Expect.equal("say(1, 99)", queue.say(1, 99), 20);
            Expect.equal("the other's told worth", queue.member(0, 2), 50);
        });
        Expect.sentence("Promise 6: worth 0 to 99, refused", () -> {
            Refusal.arguments("say", Queues::busy, (q, w) -> q.say(1, w), NO_WORTH);
            Refusal.arguments("say", Queues::busy, (q, w) -> q.say(5, w), NO_WORTH);
        });
        Expect.sentence("Promise 6: refused if there is no such member", () ->
                Refusal.indices("say", Queues::busy, (q, m) -> q.say(m, 5), NOT_IN_BUSY));
        Expect.sentence("Promise 6: a wrong member comes before a wrong worth", () -> {
            Refusal.indices("say", Queues::busy, (q, m) -> q.say(m, 100), NOT_IN_BUSY);
            Refusal.index("nobody", Queues::empty, queue -> queue.say(0, -1));
        });
        Expect.sentence("Promise 6: undoable", () -> {
            Undoable.check("say", Queues::busy, queue -> queue.say(2, 99));
            Undoable.check("say the same", Queues::busy, queue -> queue.say(2, 3));
        });
    }

    // ---- promise 7

    private static void setSplit() {
        Expect.sentence("Promise 7: split 0 to 100, let in", () -> {
            ConsentQueue queue = Queues.of(5, 10, 9, 4);
            Expect.equal("setSplit(0)", queue.setSplit(0), 50);
            Expect.equal("price by 0", queue.pair(0, 3), 20);
            Expect.equal("setSplit(100)", queue.setSplit(100), 0);
            Expect.equal("price by 100", queue.pair(0, 3), 90);
            Expect.equal("setSplit(99)", queue.setSplit(99), 100);
            Expect.equal("price by 99", queue.pair(0, 3), 89);
            Expect.equal("setSplit(1)", queue.setSplit(1), 99);
            Expect.equal("price by 1", queue.pair(0, 3), 20);
            Expect.equal("whole(1)", queue.whole(1), 1);
        });
        Expect.sentence("Promise 7: split 0 to 100, refused", () -> {
            Refusal.arguments("setSplit", Queues::busy, (q, s) -> q.setSplit(s),
                    -1, 101, MIN, MAX);
            Refusal.arguments("setSplit", Queues::empty, (q, s) -> q.setSplit(s), -1, 101);
        });
        Expect.sentence("Promise 7: undoable", () -> {
            Undoable.check("setSplit", Queues::busy, queue -> queue.setSplit(0));
            Undoable.check("setSplit the same", Queues::busy, queue -> queue.setSplit(40));
            Undoable.check("setSplit of nobody", Queues::empty, queue -> queue.setSplit(100));
        });
    }
}
