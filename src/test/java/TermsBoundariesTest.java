/** The boundaries that the head "Terms" names, a test for each sentence that names one. */
final class TermsBoundariesTest {
    private static final int NONE = ConsentQueue.NONE;

    private TermsBoundariesTest() {
    }

    public static void main(String[] args) {
        use();
        members();
        swaps();
        offers();
        friends();
        settling();
        undo();
        exceptions();
        Expect.finish();
    }

    // ---- what it is, and for how long it is used

    private static void use() {
        Expect.sentence("What it is: all of the 512 calls answer", () -> {
            ConsentQueue queue = new ConsentQueue();
            for (int i = 0; i < 255; i++) {
                Expect.equal("join()", queue.join(i % 100, 1 + i % 30), i);
                Expect.equal("serve()", queue.serve(), i);
            }
            Expect.equal("511th call", queue.whole(12), 255);
            Expect.equal("512th call", queue.undo(), 3);
        });
        Expect.sentence("What it is: a full text in all of the 512 calls", () -> {
            ConsentQueue queue = new ConsentQueue();
            Queues.type(queue, "join 0 1;serve;".repeat(10));
            for (int run = 0; run < 360; run++) {
                Expect.equal("runCommands()", queue.runCommands(), 20);
            }
            Expect.equal("511th call", queue.join(1, 1), 3600);
            Expect.equal("512th call", queue.whole(11), 3600);
        });
        Expect.sentence("What it is: money gathered in all of the 512 calls", () -> {
            ConsentQueue queue = Queues.of(0, 30);
            queue.setSplit(100);
            Queues.type(queue, "join 99 30;swap 0;serve;".repeat(6));
            for (int run = 0; run < 364; run++) {
                Expect.equal("runCommands()", queue.runCommands(), 18);
            }
            Expect.equal("511th call", queue.member(0, 6), 364 * 6 * 2970);
            Expect.equal("512th call", queue.whole(10), 364 * 6 * 2970);
        });
        Expect.sentence("What it is: objects share nothing", () -> {
            ConsentQueue one = Queues.busy();
            ConsentQueue other = new ConsentQueue();
            Expect.equal("members of a new one beside it", other.whole(0), 0);
            Expect.badState("its undo()", () -> other.undo());
            Queues.run(other, "join 1 1;join 2 2;swap 0;");
            Expect.equal("what-if of the other", other.honestCost(), 2);
            Expect.holds("the one is as it was",
                    Snapshot.of(one).equals(Snapshot.of(Queues.busy())));
        });
    }

    // ---- members

    private static void members() {
        Expect.sentence("Terms, members: at most 10, by each way to join", () -> {
            tenBy("join", queue -> queue.join(1, 1));
            tenBy("joinAt", queue -> queue.joinAt(1, 1, 0));
            tenBy("text of join", queue -> ran(queue, "join 1 1;"));
            tenBy("text of push", queue -> ran(queue, "push 1 1 0;"));
        });
        Expect.sentence("Terms, members: numbers from 0 on, not used again", () -> {
            ConsentQueue queue = new ConsentQueue();
            for (int number = 0; number < 100; number++) {
                Expect.equal("join()", queue.join(1, 1), number);
                boolean leaves = number % 2 == 0;
                Expect.equal("gone", leaves ? queue.leave(number) : queue.serve(),
                        leaves ? 0 : number);
            }
            Expect.equal("joined in all", queue.whole(12), 100);
            Expect.equal("served in all", queue.whole(11), 50);
        });
        Expect.sentence("Terms, members: numbers are used again by undo()", () -> {
            ConsentQueue queue = Queues.of(1, 1, 1, 1, 1, 1, 1, 1, 1, 1);
            for (int i = 0; i < 4; i++) {
                queue.undo();
            }
            Expect.equal("behind undo()", queue.join(1, 1), 1);
            Expect.equal("joined in all", queue.whole(12), 2);
        });
        Expect.sentence("Terms, members: who joins by a text gets the next number", () -> {
            ConsentQueue queue = Queues.alone();
            Queues.run(queue, "join 1 1;push 2 2 0;leave 1;join 3 3;");
            Queues.order("numbers", queue, 2, 0, 3);
        });
        Expect.sentence("Terms, members: a worth and a told worth of 0 and 99", () -> {
            ConsentQueue queue = Queues.of(1, 1, 0, 30, 99, 30);
            queue.say(1, 99);
            queue.say(2, 0);
            Expect.equal("cost", queue.whole(2), 99 * 31);
            Expect.equal("cost by told worths", queue.whole(3), 99);
            Expect.equal("gain", queue.pair(1, 0), 0);
            Expect.equal("loss", queue.pair(1, 1), 2970);
        });
        Expect.sentence("Terms, members: money may be below 0", () -> {
            ConsentQueue queue = Queues.of(0, 1, 1, 1);
            queue.setSplit(100);
            queue.swap(0);
            Expect.equal("of the payer", queue.member(1, 6), -1);
            Expect.equal("of the paid one", queue.member(0, 6), 1);
        });
        Expect.sentence("Terms, members: the wait is the sum of all ahead", () -> {
            ConsentQueue queue = Queues.full();
            for (int number = 0; number <= 9; number++) {
                Expect.equal("wait", queue.member(number, 4), number);
                Expect.equal("cost", queue.member(number, 5), number * (number + 1));
            }
            queue.serve();
            queue.join(1, 30);
            queue.serve();
            queue.join(2, 1);
            Expect.equal("wait behind eight", queue.member(10, 4), 8);
            Expect.equal("wait behind a long one", queue.member(11, 4), 38);
            Expect.equal("wait of the first", queue.member(2, 4), 0);
        });
    }

    private static long ran(ConsentQueue queue, String text) {
        if (Queues.run(queue, text) == 0) {
            throw new IllegalStateException("refused");
        }
        return queue.whole(12) - 1;
    }

    private static void tenBy(String what, Refusal.Call joining) {
        ConsentQueue queue = new ConsentQueue();
        for (int number = 0; number < 10; number++) {
            Expect.equal(what, joining.on(queue), number);
        }
        Expect.badState(what + ", the eleventh", () -> joining.on(queue));
        Expect.equal(what + ", members", queue.whole(0), 10);
        Expect.equal(what + ", joined", queue.whole(12), 10);
        queue.leave(0);
        Expect.equal(what + ", room again", joining.on(queue), 10);
    }

    // ---- swaps

    private static void swaps() {
        Expect.sentence("Terms, swaps: would swap if the surplus is greater than 0", () -> {
            for (int told = 4; told <= 6; told++) {
                ConsentQueue queue = Queues.of(5, 10, 9, 10);
                queue.say(1, told);
                boolean would = told > 5;
                Expect.equal("reason() by " + told, queue.reason(0), would ? 0 : 4);
                Expect.equal("whole(5) by " + told, queue.whole(5), would ? 1 : 0);
                Expect.equal("settle() by " + told, queue.settle(), would ? 1 : 0);
            }
        });
        Expect.sentence("Terms, swaps: friends of the pair and beside it hold it", () -> {
            for (int place = 0; place <= 3; place++) {
                ConsentQueue queue = Queues.of(1, 1, 2, 1, 3, 1, 4, 1, 5, 1);
                queue.befriend(place);
                for (int asked = 0; asked <= 3; asked++) {
                    int due = asked == place ? 1 : asked == place + 1 ? 2
                            : asked == place - 1 ? 3 : 0;
                    Expect.equal("friends at " + place, queue.reason(asked), due);
                }
                boolean atEnd = place == 0 || place == 3;
                Expect.equal("whole(5)", queue.whole(5), atEnd ? 2 : 1);
            }
        });
        Expect.sentence("Terms, swaps: the fair price is rounded down", () -> {
            fairPrice(1, 99, 3);
            fairPrice(1, 100, 4);
            fairPrice(2, 49, 3);
            fairPrice(2, 50, 4);
            fairPrice(2, 99, 4);
            fairPrice(96, 100, 99);
            fairPrice(96, 1, 3);
            fairPrice(96, 2, 4);
            fairPrice(96, 0, 3);
        });
        Expect.sentence("Terms, swaps: both change places, and the back one pays", () -> {
            ConsentQueue queue = Queues.of(7, 2, 5, 10, 9, 4, 1, 3);
            Expect.equal("swap(1)", queue.swap(1), 55);
            Queues.order("swapped", queue, 0, 2, 1, 3);
            int[] money = {0, 55, -55, 0};
            for (int member = 0; member <= 3; member++) {
                Expect.equal("money of " + member, queue.member(member, 6), money[member]);
            }
        });
    }

    /** A loss of 3, and this surplus. */
    private static void fairPrice(int surplus, int split, int due) {
        ConsentQueue queue = Queues.of(3, 1, 3 + surplus, 1);
        queue.setSplit(split);
        String what = surplus + " by " + split;
        Expect.equal(what + ", pair()", queue.pair(0, 3), due);
        Expect.equal(what + ", swap()", queue.swap(0), due);
        queue.undo();
        queue.settle();
        Expect.equal(what + ", settle()", queue.member(0, 6), due);
    }

    // ---- offers

    /** Members 0 to 4 in their order; 2 offers 7 to 1. */
    private static ConsentQueue offering() {
        ConsentQueue queue = Queues.of(1, 1, 2, 1, 3, 1, 4, 1, 5, 1);
        queue.offer(2, 7);
        return queue;
    }

    private static void offerEnds(String what, Refusal.Call call) {
        ConsentQueue queue = offering();
        call.on(queue);
        Expect.equal(what + ", none stands", queue.whole(6), 0);
        for (int place = 0; place < queue.whole(0); place++) {
            Expect.equal(what + ", made", queue.member(queue.at(place), 7), NONE);
            Expect.equal(what + ", got", queue.member(queue.at(place), 8), NONE);
        }
    }

    private static void offerStands(String what, Refusal.Call call) {
        ConsentQueue queue = offering();
        call.on(queue);
        Expect.equal(what + ", it stands", queue.whole(6), 1);
        Expect.equal(what + ", made", queue.member(2, 7), 7);
        Expect.equal(what + ", got", queue.member(1, 8), 7);
    }

    private static void offers() {
        Expect.sentence("Terms, offers: gone as soon as they are no neighbours", () -> {
            offerEnds("it is taken", queue -> queue.take(1));
            offerEnds("they swap", queue -> queue.swap(1));
            offerEnds("who got it goes ahead", queue -> queue.swap(0));
            offerEnds("who made it goes back", queue -> queue.swap(2));
            offerEnds("one joins between", queue -> queue.joinAt(1, 1, 2));
            offerEnds("who got it leaves", queue -> queue.leave(1));
            offerEnds("who made it leaves", queue -> queue.leave(2));
            offerEnds("who got it is served", queue -> queue.serve() + queue.serve());
            offerEnds("they settle", ConsentQueue::settle);
            offerEnds("a text swaps them", queue -> Queues.run(queue, "swap 1;"));
        });
        Expect.sentence("Terms, offers: gone for good, also if neighbours again", () -> {
            offerEnds("swapped there and back", queue -> queue.swap(1) + queue.say(2, 0)
                    + queue.swap(1));
            offerEnds("one joined and left", queue -> queue.joinAt(1, 1, 2) + queue.leave(5));
            offerEnds("one went between and back", queue -> queue.swap(2) + queue.say(3, 0)
                    + queue.swap(2));
        });
        Expect.sentence("Terms, offers: stand as long as they are neighbours", () -> {
            offerStands("one joins ahead", queue -> queue.joinAt(1, 1, 1));
            offerStands("one joins behind", queue -> queue.joinAt(1, 1, 3));
            offerStands("one leaves ahead", queue -> queue.leave(0));
            offerStands("one leaves behind", queue -> queue.leave(3));
            offerStands("the first is served", ConsentQueue::serve);
            offerStands("others swap", queue -> queue.swap(3));
            offerStands("they tell other worths", queue -> queue.say(1, 99) + queue.say(2, 0));
            offerStands("the split is set", queue -> queue.setSplit(0));
            offerStands("they become friends", queue -> queue.befriend(1));
            offerStands("they part", queue -> queue.befriend(1) + queue.part(1));
            offerStands("undo() brings it back", queue -> queue.swap(1) + queue.undo());
        });
        Expect.sentence("Terms, offers: gone when the member makes another one", () -> {
            ConsentQueue queue = offering();
            Expect.equal("offer(2, 0)", queue.offer(2, 0), 7);
            Expect.equal("offers", queue.whole(6), 1);
            Expect.equal("made", queue.member(2, 7), 0);
            Expect.badState("too low now", () -> queue.take(1));
        });
        Expect.sentence("Terms, offers: taken if the price is at least the loss", () -> {
            ConsentQueue queue = offering();
            queue.say(1, 8);
            Expect.equal("a loss of 8", queue.whole(7), 0);
            Expect.badState("7 for a loss of 8", () -> queue.take(1));
            queue.say(1, 7);
            Expect.equal("a loss of 7", queue.whole(7), 1);
            Expect.equal("7 for a loss of 7", queue.take(1), 7);
        });
        Expect.sentence("Terms, offers: not taken if friends hold the pair", () -> {
            int[] due = {0, 0, 0, 1};
            for (int place = 0; place <= 3; place++) {
                ConsentQueue queue = offering();
                queue.befriend(place);
                Expect.equal("friends at " + place, queue.whole(7), due[place]);
            }
        });
    }

    // ---- friends

    /** Five of whom 1 and 2, and 2 and 3, are friends. */
    private static ConsentQueue befriended() {
        ConsentQueue queue = Queues.of(1, 1, 2, 1, 3, 1, 4, 1, 5, 1);
        queue.befriend(1);
        queue.befriend(2);
        return queue;
    }

    private static void pairsOfFriends(String what, int due, Refusal.Call call) {
        ConsentQueue queue = befriended();
        call.on(queue);
        Expect.equal(what + ", pairs", queue.whole(8), due);
        int friends = 0;
        for (int place = 0; place < queue.whole(0); place++) {
            friends += queue.member(queue.at(place), 9);
        }
        Expect.equal(what + ", friends of all", friends, 2 * due);
    }

    private static void friends() {
        Expect.sentence("Terms, friends: stay friends as long as they are neighbours", () -> {
            pairsOfFriends("one joins ahead", 2, queue -> queue.joinAt(1, 1, 1));
            pairsOfFriends("one joins behind", 2, queue -> queue.joinAt(1, 1, 4));
            pairsOfFriends("the first leaves", 2, queue -> queue.leave(0));
            pairsOfFriends("the last leaves", 2, queue -> queue.leave(4));
            pairsOfFriends("the first is served", 2, ConsentQueue::serve);
            pairsOfFriends("all settle", 2, ConsentQueue::settle);
            pairsOfFriends("they tell worths", 2, queue -> queue.say(1, 0) + queue.say(3, 99));
        });
        Expect.sentence("Terms, friends: no more if one of them leaves", () -> {
            pairsOfFriends("the front one leaves", 1, queue -> queue.leave(1));
            pairsOfFriends("the one between leaves", 0, queue -> queue.leave(2));
            pairsOfFriends("the back one leaves", 1, queue -> queue.leave(3));
            pairsOfFriends("the front one is served", 1, queue -> queue.serve() + queue.serve());
            pairsOfFriends("a text lets one leave", 0, queue -> Queues.run(queue, "leave 2;"));
            pairsOfFriends("undo() brings them back", 2, queue -> queue.leave(2) + queue.undo());
        });
        Expect.sentence("Terms, friends: nobody can join between them", () -> {
            for (int place : new int[] {2, 3}) {
                Refusal.state("joinAt " + place, TermsBoundariesTest::befriended,
                        queue -> queue.joinAt(1, 1, place));
            }
            pairsOfFriends("not by a text", 2, queue -> Queues.run(queue, "push 1 1 2;"));
        });
        Expect.sentence("Terms, friends: swaps that would part them do not come about", () -> {
            for (int place = 0; place <= 3; place++) {
                int front = place;
                Refusal.state("swap(" + place + ")", TermsBoundariesTest::befriended,
                        queue -> queue.swap(front));
            }
            Expect.equal("settle()", befriended().settle(), 0);
            pairsOfFriends("not by a text", 2, queue -> Queues.run(queue, "swap 1;"));
        });
    }

    // ---- settling

    private static void settling() {
        Expect.sentence("Terms, settling: until no two neighbours would swap", () -> {
            for (int worth = 0; worth <= 99; worth += 9) {
                ConsentQueue queue = Queues.of(worth, 7, 50, 5, 99 - worth, 3, 7, 1, 0, 30);
                queue.settle();
                Expect.equal("whole(5)", queue.whole(5), 0);
                Expect.equal("settled", queue.settle(), 0);
                Expect.equal("the best order", queue.whole(2), queue.whole(4));
            }
        });
        Expect.sentence("Terms, settling: the greatest surplus, then the lowest place", () -> {
            ConsentQueue queue = Queues.of(0, 1, 1, 1, 3, 1, 9, 1);
            queue.setSplit(100);
            Expect.equal("swaps", queue.settle(), 6);
            int[] money = {13, 11, 3, -27};
            for (int member = 0; member <= 3; member++) {
                Expect.equal("money of " + member, queue.member(member, 6), money[member]);
            }
        });
        Expect.sentence("Terms, settling: the best cost is the least over all orders", () -> {
            ConsentQueue queue = Queues.of(5, 10, 9, 4, 2, 6, 30, 2);
            Expect.equal("best cost", queue.whole(4), 80);
            queue.befriend(0);
            queue.befriend(2);
            Expect.equal("whatever the friends", queue.whole(4), 80);
            queue.say(3, 0);
            Expect.equal("whatever they tell", queue.whole(4), 80);
        });
    }

    // ---- undo

    private static void undo() {
        Expect.sentence("Terms, undo: also if it changes nothing", () -> {
            Undoable.check("settle", Queues::alone, ConsentQueue::settle);
            Undoable.check("setSplit", Queues::alone, queue -> queue.setSplit(50));
            Undoable.check("say", Queues::alone, queue -> queue.say(0, 5));
            Undoable.check("runCommands", Queues::alone, ConsentQueue::runCommands);
        });
        Expect.sentence("Terms, undo: a call that is refused saves nothing", () -> {
            ConsentQueue queue = Queues.alone();
            Expect.badArgument("join", () -> queue.join(100, 1));
            Expect.badState("offer", () -> queue.offer(0, 1));
            Expect.badIndex("swap", () -> queue.swap(0));
            Expect.equal("saved states", Queues.savedStates(queue), 1);
        });
        Expect.sentence("Terms, undo: what is not marked as undoable saves nothing", () -> {
            Undoable.not("member", Queues::busy, queue -> queue.member(1, 4));
            Undoable.not("at", Queues::busy, queue -> queue.at(0));
            Undoable.not("pair", Queues::busy, queue -> queue.pair(0, 3));
            Undoable.not("whole", Queues::busy, queue -> queue.whole(4));
            Undoable.not("reason", Queues::busy, queue -> queue.reason(0));
            Undoable.not("whole of one", Queues::alone, queue -> queue.whole(13));
            Undoable.not("profit of one", Queues::alone, queue -> queue.profit(0, 9));
            Undoable.not("digest of one", Queues::alone, ConsentQueue::digest);
            Undoable.not("type", Queues::alone, queue -> queue.type(';'));
            Undoable.not("clearCommands", Queues::alone, ConsentQueue::clearCommands);
        });
        Expect.sentence("Terms, undo: the latest 4 are kept", () -> {
            ConsentQueue queue = new ConsentQueue();
            for (int i = 0; i < 9; i++) {
                queue.join(i, 1);
                Expect.equal("undo() of the latest", queue.undo(), Math.min(i, 3));
                queue.join(i, 1);
            }
            Expect.equal("saved states", Queues.savedStates(queue), 4);
            Expect.equal("members at the oldest", queue.whole(0), 5);
        });
    }

    // ---- exceptions

    private static void exceptions() {
        Expect.sentence("Terms, exceptions: NONE only if no exception applies", () -> {
            Refusal.argument("at(-1)", Queues::busy, queue -> queue.at(-1));
            Refusal.index("no pair has no price", Queues::busy, queue -> queue.pair(4, 3));
            Refusal.index("no member has no offer", Queues::busy, queue -> queue.member(6, 7));
            Refusal.index("nor got one", Queues::busy, queue -> queue.member(NONE, 8));
            Refusal.state("none before at place 0", Queues::busy, queue -> queue.offer(1, 5));
        });
        Expect.sentence("Terms, exceptions: two in one call, the first is thrown", () -> {
            Refusal.argument("join", Queues::full, queue -> queue.join(100, 1));
            Refusal.argument("joinAt", Queues::fullOfFriends, queue -> queue.joinAt(1, 31, 1));
            Refusal.index("say", Queues::busy, queue -> queue.say(0, 100));
            Refusal.index("offer", Queues::busy, queue -> queue.offer(0, -1));
            Refusal.argument("offer", Queues::busy, queue -> queue.offer(1, -1));
            Refusal.index("member", Queues::busy, queue -> queue.member(0, 10));
            Refusal.index("pair", Queues::busy, queue -> queue.pair(4, 5));
            Refusal.index("profit", Queues::busy, queue -> queue.profit(0, 100));
            Refusal.argument("type", Queues::fullOfFriends, queue -> queue.type(128));
        });
    }
}
