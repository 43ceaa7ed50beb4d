/** One method for each promise of the document: ordinary inputs, its edges, wrong inputs. */
final class PromisesTest {
    private static final int NONE = ConsentQueue.NONE;
    private static final int MIN = Integer.MIN_VALUE;
    private static final int MAX = Integer.MAX_VALUE;

    private PromisesTest() {
    }

    public static void main(String[] args) {
        promise1NewObject();
        promise2Join();
        promise3JoinAt();
        promise4Leave();
        promise5Serve();
        promise6Say();
        promise7SetSplit();
        promise8Offer();
        promise8OffersThatEnd();
        promise9Take();
        promise10Swap();
        promise11Befriend();
        promise12Part();
        promise13Settle();
        promise14Member();
        promise15At();
        promise16Pair();
        promise17Whole();
        promise17BestCost();
        promise18Reason();
        promise19SettledPlace();
        promise20Profit();
        promise21BestLie();
        promise22HonestCost();
        promise23Disorder();
        promise24Type();
        promise25ClearCommands();
        promise26RunCommands();
        promise26Faults();
        promise27Undo();
        promise27UndoOfEachCall();
        promise28Digest();
        Expect.finish();
    }

    // ---- helpers

    /** The call is refused with this exception, and the digest stays what it was. */
    private static void unchanged(String what, ConsentQueue queue,
            Class<? extends RuntimeException> due, Expect.Call call) {
        long before = queue.digest();
        Expect.refused(what, due, call);
        Expect.equal(what + " leaves the digest", queue.digest(), before);
    }

    private static void badIndex(String what, ConsentQueue queue, Expect.Call call) {
        unchanged(what, queue, IndexOutOfBoundsException.class, call);
    }

    private static void badArgument(String what, ConsentQueue queue, Expect.Call call) {
        unchanged(what, queue, IllegalArgumentException.class, call);
    }

    private static void badState(String what, ConsentQueue queue, Expect.Call call) {
        unchanged(what, queue, IllegalStateException.class, call);
    }

    // ---- members

    private static void promise1NewObject() {
        ConsentQueue queue = new ConsentQueue();
        Expect.equal("NONE", ConsentQueue.NONE, -1);
        for (int what = 0; what <= 13; what++) {
            Expect.equal("new whole(" + what + ")", queue.whole(what), what == 1 ? 50 : 0);
        }
        Expect.equal("new at(0)", queue.at(0), NONE);
        Expect.badState("new undo()", () -> queue.undo());
        Expect.equal("new settle()", queue.settle(), 0);
        Expect.equal("new runCommands()", queue.runCommands(), 0);
        Expect.equal("new honestCost()", queue.honestCost(), 0);
        Expect.equal("new disorder()", queue.disorder(), 0);
    }

    private static void promise2Join() {
        ConsentQueue queue = new ConsentQueue();
        Expect.equal("join(0, 1)", queue.join(0, 1), 0);
        Expect.equal("join(99, 30)", queue.join(99, 30), 1);
        Queues.order("joined", queue, 0, 1);
        Expect.equal("told", queue.member(1, 2), 99);
        Expect.equal("money", queue.member(1, 6), 0);
        badArgument("join(-1, 1)", queue, () -> queue.join(-1, 1));
        badArgument("join(100, 1)", queue, () -> queue.join(100, 1));
        badArgument("join(1, 0)", queue, () -> queue.join(1, 0));
        badArgument("join(1, 31)", queue, () -> queue.join(1, 31));
        badArgument("join(MAX, MIN)", queue, () -> queue.join(MAX, MIN));
        queue.offer(1, 5);
        queue.befriend(0);
        queue.leave(1);
        Expect.equal("numbers are not used again", queue.join(1, 1), 2);
        Expect.equal("a new member has no offer", queue.member(2, 7), NONE);
        Expect.equal("a new member has no friends", queue.member(2, 9), 0);
        ConsentQueue full = Queues.full();
        badState("an eleventh", full, () -> full.join(1, 1));
        badArgument("an eleventh out of range", full, () -> full.join(100, 1));
        full.serve();
        Expect.equal("room again", full.join(1, 1), 10);
    }

    private static void promise3JoinAt() {
        ConsentQueue queue = Queues.of(1, 1, 2, 2);
        Expect.equal("joinAt front", queue.joinAt(3, 3, 0), 2);
        Expect.equal("joinAt end", queue.joinAt(4, 4, 3), 3);
        Expect.equal("joinAt middle", queue.joinAt(5, 5, 2), 4);
        Queues.order("joined at", queue, 2, 0, 4, 1, 3);
        badArgument("joinAt(-1, 1, 0)", queue, () -> queue.joinAt(-1, 1, 0));
        badArgument("joinAt(1, 31, 0)", queue, () -> queue.joinAt(1, 31, 0));
        badArgument("joinAt(1, 1, -1)", queue, () -> queue.joinAt(1, 1, -1));
        badArgument("joinAt(1, 1, 6)", queue, () -> queue.joinAt(1, 1, 6));
        badArgument("joinAt(1, 1, MAX)", queue, () -> queue.joinAt(1, 1, MAX));
        queue.befriend(1);
        badState("between friends", queue, () -> queue.joinAt(1, 1, 2));
        badArgument("between friends, out of range", queue, () -> queue.joinAt(1, 0, 2));
        queue.joinAt(1, 1, 1);
        queue.joinAt(1, 1, 4);
        Queues.order("around friends", queue, 2, 5, 0, 4, 6, 1, 3);
        Expect.equal("friends moved back", queue.pair(2, 4), 1);
        ConsentQueue full = Queues.full();
        badState("an eleventh at 10", full, () -> full.joinAt(1, 1, 10));
        badArgument("an eleventh at 11", full, () -> full.joinAt(1, 1, 11));
    }

    private static void promise4Leave() {
        ConsentQueue queue = Queues.of(1, 1, 2, 2, 3, 3, 4, 4);
        queue.befriend(0);
        queue.befriend(1);
        Expect.equal("leave(1)", queue.leave(1), 1);
        Queues.order("left", queue, 0, 2, 3);
        Expect.equal("no friends over a gap", queue.pair(0, 4), 0);
        Expect.equal("no pairs of friends", queue.whole(8), 0);
        badIndex("leave(1) again", queue, () -> queue.leave(1));
        badIndex("leave(-1)", queue, () -> queue.leave(-1));
        badIndex("leave(4)", queue, () -> queue.leave(4));
        badIndex("leave(MIN)", queue, () -> queue.leave(MIN));
        Expect.equal("leave the last", queue.leave(3), 2);
        Expect.equal("leave the first", queue.leave(0), 0);
        Expect.equal("none is served", queue.whole(11), 0);
        Expect.equal("leave the only one", queue.leave(2), 0);
        Expect.equal("empty", queue.whole(0), 0);
    }

    private static void promise5Serve() {
        ConsentQueue queue = Queues.of(1, 1, 2, 2, 3, 3);
        queue.befriend(0);
        queue.befriend(1);
        Expect.equal("serve()", queue.serve(), 0);
        Queues.order("served", queue, 1, 2);
        Expect.equal("served in all", queue.whole(11), 1);
        Expect.equal("other friends stay", queue.pair(0, 4), 1);
        Expect.equal("friends of the first now", queue.member(1, 9), 1);
        Expect.equal("wait of the first now", queue.member(1, 4), 0);
        queue.serve();
        Expect.equal("serve the last one", queue.serve(), 2);
        badState("serve nobody", queue, () -> queue.serve());
        Expect.equal("served in all, three", queue.whole(11), 3);
    }

    private static void promise6Say() {
        ConsentQueue queue = Queues.of(10, 5, 20, 5);
        Expect.equal("say(1, 99)", queue.say(1, 99), 20);
        Expect.equal("say(1, 0)", queue.say(1, 0), 99);
        Expect.equal("told", queue.member(1, 2), 0);
        Expect.equal("the worth stays", queue.member(1, 1), 20);
        badArgument("say(1, -1)", queue, () -> queue.say(1, -1));
        badArgument("say(1, 100)", queue, () -> queue.say(1, 100));
        badIndex("say(2, 5)", queue, () -> queue.say(2, 5));
        badIndex("say(-1, 100)", queue, () -> queue.say(-1, 100));
    }

    private static void promise7SetSplit() {
        ConsentQueue queue = Queues.of(10, 10, 30, 5);
        Expect.equal("setSplit(0)", queue.setSplit(0), 50);
        Expect.equal("all to the back one", queue.pair(0, 3), 50);
        Expect.equal("setSplit(100)", queue.setSplit(100), 0);
        Expect.equal("all to the front one", queue.pair(0, 3), 300);
        Expect.equal("whole(1)", queue.whole(1), 100);
        badArgument("setSplit(-1)", queue, () -> queue.setSplit(-1));
        badArgument("setSplit(101)", queue, () -> queue.setSplit(101));
        badArgument("setSplit(MIN)", queue, () -> queue.setSplit(MIN));
    }

    // ---- swaps, offers, friends

    private static void promise8Offer() {
        ConsentQueue queue = Queues.of(1, 1, 2, 2, 3, 3);
        Expect.equal("offer(1, 0)", queue.offer(1, 0), NONE);
        Expect.equal("offer(1, 9999)", queue.offer(1, 9999), 0);
        Expect.equal("offer(2, 7)", queue.offer(2, 7), NONE);
        Expect.equal("made by 1", queue.member(1, 7), 9999);
        Expect.equal("made to 1", queue.member(1, 8), 7);
        Expect.equal("offers", queue.whole(6), 2);
        badIndex("offer(3, -1)", queue, () -> queue.offer(3, -1));
        badIndex("offer(-1, 5)", queue, () -> queue.offer(-1, 5));
        badArgument("offer(1, -1)", queue, () -> queue.offer(1, -1));
        badArgument("offer(1, 10000)", queue, () -> queue.offer(1, 10000));
        badArgument("offer(0, 10000) at place 0", queue, () -> queue.offer(0, 10000));
        badState("offer(0, 5) at place 0", queue, () -> queue.offer(0, 5));
    }

    private static void promise8OffersThatEnd() {
        ConsentQueue queue = Queues.of(1, 1, 2, 1, 3, 1, 4, 1);
        queue.offer(1, 5);
        queue.offer(2, 6);
        queue.offer(3, 7);
        queue.joinAt(1, 1, 2);
        Expect.equal("one joins between", queue.member(2, 7), NONE);
        Expect.equal("one joins elsewhere", queue.member(3, 7), 7);
        queue.leave(4);
        Expect.equal("gone for good", queue.member(2, 7), NONE);
        queue.offer(2, 6);
        queue.leave(1);
        Expect.equal("the one ahead leaves", queue.member(2, 7), NONE);
        Expect.equal("offer to who stays", queue.member(2, 8), 7);
        queue.offer(2, 6);
        queue.serve();
        Expect.equal("the one ahead is served", queue.member(2, 7), NONE);
        ConsentQueue other = Queues.of(1, 1, 2, 1, 3, 1, 4, 1);
        other.offer(1, 5);
        other.offer(2, 6);
        other.offer(3, 7);
        other.swap(1);
        Expect.equal("offers around a swap are gone", other.whole(6), 0);
        ConsentQueue told = Queues.of(1, 1, 2, 1);
        told.offer(1, 5);
        told.befriend(0);
        told.say(0, 50);
        Expect.equal("an offer outlasts friends and words", told.member(1, 7), 5);
    }

    private static void promise9Take() {
        ConsentQueue queue = Queues.of(10, 4, 2, 3, 5, 6);
        queue.offer(1, 29);
        badState("below the loss", queue, () -> queue.take(0));
        queue.offer(1, 30);
        Expect.equal("at the loss", queue.take(0), 30);
        Queues.order("taken", queue, 1, 0, 2);
        Expect.equal("payer", queue.member(1, 6), -30);
        Expect.equal("paid one", queue.member(0, 6), 30);
        Expect.equal("swaps", queue.whole(9), 1);
        Expect.equal("paid", queue.whole(10), 30);
        badState("gone when taken", queue, () -> queue.take(1));
        badState("none offered to the last", queue, () -> queue.take(2));
        badIndex("take(3)", queue, () -> queue.take(3));
        badIndex("take(-1)", queue, () -> queue.take(-1));
        queue.offer(0, 9999);
        queue.befriend(0);
        badState("friends", queue, () -> queue.take(1));
        queue.part(0);
        queue.befriend(1);
        badState("the back one's friend", queue, () -> queue.take(1));
        queue.part(1);
        queue.offer(2, 9999);
        queue.befriend(0);
        badState("the front one's friend", queue, () -> queue.take(0));
        queue.part(0);
        queue.say(0, 0);
        queue.offer(2, 0);
        Expect.equal("for nothing, by told worth", queue.take(0), 0);
    }

    private static void promise10Swap() {
        ConsentQueue queue = Queues.of(5, 10, 9, 4, 9, 4);
        Expect.equal("swap(0)", queue.swap(0), 55);
        Queues.order("swapped", queue, 1, 0, 2);
        Expect.equal("payer", queue.member(1, 6), -55);
        Expect.equal("paid one", queue.member(0, 6), 55);
        Expect.equal("swaps", queue.whole(9), 1);
        Expect.equal("paid", queue.whole(10), 55);
        badState("back again", queue, () -> queue.swap(0));
        badIndex("swap(-1)", queue, () -> queue.swap(-1));
        badIndex("swap(2)", queue, () -> queue.swap(2));
        badIndex("swap(MAX)", queue, () -> queue.swap(MAX));
        queue.befriend(1);
        badState("friends", queue, () -> queue.swap(1));
        queue.part(1);
        queue.befriend(0);
        badState("the front one's friend", queue, () -> queue.swap(1));
        queue.part(0);
        Expect.equal("parted", queue.swap(1), 55);
        ConsentQueue equal = Queues.of(6, 4, 3, 2);
        badState("no surplus", equal, () -> equal.swap(0));
        ConsentQueue held = Queues.of(1, 1, 9, 1, 1, 1);
        held.befriend(1);
        badState("the back one's friend", held, () -> held.swap(0));
        ConsentQueue alone = Queues.of(1, 1);
        badIndex("none behind", alone, () -> alone.swap(0));
        ConsentQueue odd = Queues.of(0, 1, 1, 1);
        Expect.equal("rounded down", odd.swap(0), 0);
    }

    private static void promise11Befriend() {
        ConsentQueue queue = Queues.of(1, 1, 2, 1, 3, 1);
        Expect.equal("befriend(1)", queue.befriend(1), 1);
        Expect.equal("befriend(0)", queue.befriend(0), 2);
        Expect.equal("friends of the middle one", queue.member(1, 9), 2);
        badState("befriend(0) again", queue, () -> queue.befriend(0));
        badIndex("befriend(2)", queue, () -> queue.befriend(2));
        badIndex("befriend(-1)", queue, () -> queue.befriend(-1));
        badIndex("befriend(MAX)", queue, () -> queue.befriend(MAX));
        badIndex("befriend(MIN)", queue, () -> queue.befriend(MIN));
    }

    private static void promise12Part() {
        ConsentQueue queue = Queues.of(1, 1, 2, 1, 3, 1);
        badState("part(0), no friends", queue, () -> queue.part(0));
        queue.befriend(0);
        queue.befriend(1);
        Expect.equal("part(0)", queue.part(0), 1);
        Expect.equal("no friends now", queue.pair(0, 4), 0);
        Expect.equal("the others still", queue.pair(1, 4), 1);
        badState("part(0) again", queue, () -> queue.part(0));
        Expect.equal("part(1)", queue.part(1), 0);
        badIndex("part(2)", queue, () -> queue.part(2));
        badIndex("part(-1)", queue, () -> queue.part(-1));
        badIndex("part(MAX)", queue, () -> queue.part(MAX));
    }

    private static void promise13Settle() {
        ConsentQueue queue = Queues.full();
        Expect.equal("settle()", queue.settle(), 45);
        Queues.order("turned round", queue, 9, 8, 7, 6, 5, 4, 3, 2, 1, 0);
        Expect.equal("swaps", queue.whole(9), 45);
        Expect.equal("settled already", queue.settle(), 0);
        ConsentQueue priced = Queues.of(0, 3, 2, 3, 4, 3);
        priced.setSplit(100);
        priced.offer(1, 7);
        Expect.equal("settle() of three", priced.settle(), 3);
        Expect.equal("paid to the first", priced.member(0, 6), 18);
        Expect.equal("paid to and by the second", priced.member(1, 6), 6);
        Expect.equal("paid by the last", priced.member(2, 6), -24);
        Expect.equal("paid in all", priced.whole(10), 30);
        Expect.equal("offers ended on the way", priced.whole(6), 0);
        ConsentQueue held = Queues.of(1, 1, 2, 1, 9, 1);
        held.befriend(0);
        Expect.equal("friends are not parted", held.settle(), 0);
        Queues.order("held by friends", held, 0, 1, 2);
        ConsentQueue lying = Queues.of(1, 1, 2, 1);
        lying.say(0, 5);
        Expect.equal("by told worths", lying.settle(), 0);
    }

    // ---- values

    private static void promise14Member() {
        ConsentQueue queue = Queues.of(5, 10, 9, 4, 7, 6);
        queue.say(1, 30);
        queue.offer(1, 25);
        queue.offer(2, 12);
        queue.befriend(1);
        int[] due = {1, 9, 30, 4, 10, 90, 0, 25, 12, 1};
        for (int what = 0; what < due.length; what++) {
            Expect.equal("member(1, " + what + ")", queue.member(1, what), due[what]);
        }
        Expect.equal("wait of the last", queue.member(2, 4), 14);
        Expect.equal("cost of the last", queue.member(2, 5), 98);
        Expect.equal("none offered by the first", queue.member(0, 7), NONE);
        Expect.equal("none offered to the last", queue.member(2, 8), NONE);
        badIndex("member(3, 0)", queue, () -> queue.member(3, 0));
        badIndex("member(-1, 10)", queue, () -> queue.member(-1, 10));
        badArgument("member(0, 10)", queue, () -> queue.member(0, 10));
        badArgument("member(0, -1)", queue, () -> queue.member(0, -1));
    }

    private static void promise15At() {
        ConsentQueue queue = Queues.of(1, 1, 2, 2);
        queue.joinAt(3, 3, 0);
        Expect.equal("at(0)", queue.at(0), 2);
        Expect.equal("at(2)", queue.at(2), 1);
        Expect.equal("at(3)", queue.at(3), NONE);
        Expect.equal("at(MAX)", queue.at(MAX), NONE);
        badArgument("at(-1)", queue, () -> queue.at(-1));
        badArgument("at(MIN)", queue, () -> queue.at(MIN));
    }

    private static void promise16Pair() {
        ConsentQueue queue = Queues.of(5, 10, 9, 4, 2, 6, 4, 12);
        queue.befriend(0);
        int[] due = {90, 20, 70, 55, 1};
        int[] unwilling = {8, 54, -46, NONE, 0};
        for (int what = 0; what < due.length; what++) {
            Expect.equal("pair(0, " + what + ")", queue.pair(0, what), due[what]);
            Expect.equal("pair(1, " + what + ")", queue.pair(1, what), unwilling[what]);
        }
        Expect.equal("a surplus of 0", queue.pair(2, 2), 0);
        Expect.equal("a surplus of 0 has no price", queue.pair(2, 3), NONE);
        queue.say(1, 20);
        Expect.equal("by told worth", queue.pair(0, 0), 200);
        badIndex("pair(3, 0)", queue, () -> queue.pair(3, 0));
        badIndex("pair(-1, 9)", queue, () -> queue.pair(-1, 9));
        badIndex("pair(MAX, 0)", queue, () -> queue.pair(MAX, 0));
        badArgument("pair(0, 5)", queue, () -> queue.pair(0, 5));
        badArgument("pair(0, -1)", queue, () -> queue.pair(0, -1));
        ConsentQueue empty = new ConsentQueue();
        badIndex("pair(0, 5) of nobody", empty, () -> empty.pair(0, 5));
    }

    private static void promise17Whole() {
        ConsentQueue queue = Queues.of(5, 10, 9, 4, 2, 6, 30, 2, 1, 1);
        queue.setSplit(20);
        queue.say(1, 8);
        queue.swap(0);
        queue.serve();
        queue.offer(2, 29);
        queue.offer(3, 9999);
        queue.befriend(2);
        Queues.type(queue, "x;");
        int[] due = {4, 20, 518, 518, 43, 0, 2, 0, 1, 1, 32, 1, 5, 2};
        for (int what = 0; what < due.length; what++) {
            Expect.equal("whole(" + what + ")", queue.whole(what), due[what]);
        }
        queue.part(2);
        queue.say(2, 99);
        Expect.equal("told cost", queue.whole(3), 1488);
        Expect.equal("true cost", queue.whole(2), 518);
        Expect.equal("willing", queue.whole(5), 1);
        queue.offer(2, 30);
        Expect.equal("welcome", queue.whole(7), 2);
        badArgument("whole(-1)", queue, () -> queue.whole(-1));
        badArgument("whole(14)", queue, () -> queue.whole(14));
    }

    private static void promise17BestCost() {
        ConsentQueue queue = Queues.of(5, 10, 9, 4, 2, 6, 30, 2);
        Expect.equal("best cost", queue.whole(4), 80);
        queue.befriend(0);
        queue.befriend(1);
        queue.say(3, 0);
        Expect.equal("whatever the friends and words", queue.whole(4), 80);
        ConsentQueue worthless = Queues.of(0, 30, 0, 1, 0, 7);
        Expect.equal("best cost of the patient", worthless.whole(4), 0);
    }

    private static void promise18Reason() {
        ConsentQueue queue = Queues.of(1, 1, 50, 1, 2, 1, 60, 1, 3, 1);
        Expect.equal("they would", queue.reason(0), 0);
        Expect.equal("no surplus", queue.reason(1), 4);
        queue.befriend(1);
        Expect.equal("friends", queue.reason(1), 1);
        Expect.equal("the front one's friend", queue.reason(2), 2);
        Expect.equal("the back one's friend", queue.reason(0), 3);
        queue.befriend(0);
        queue.befriend(2);
        Expect.equal("friends first", queue.reason(1), 1);
        Expect.equal("friend ahead before surplus", queue.reason(3), 2);
        queue.part(1);
        Expect.equal("friend ahead before friend behind", queue.reason(1), 2);
        badIndex("reason(4)", queue, () -> queue.reason(4));
        badIndex("reason(-1)", queue, () -> queue.reason(-1));
        badIndex("reason(MAX)", queue, () -> queue.reason(MAX));
    }

    // ---- what if

    private static void promise19SettledPlace() {
        ConsentQueue queue = Queues.of(5, 10, 9, 4, 2, 6, 30, 2);
        int[] due = {2, 1, 3, 0};
        long before = queue.digest();
        for (int member = 0; member < due.length; member++) {
            Expect.equal("settledPlace(" + member + ")", queue.settledPlace(member), due[member]);
        }
        Expect.equal("settledPlace changes nothing", queue.digest(), before);
        badIndex("settledPlace(4)", queue, () -> queue.settledPlace(4));
        badIndex("settledPlace(-1)", queue, () -> queue.settledPlace(-1));
        queue.befriend(0);
        queue.befriend(1);
        queue.befriend(2);
        Expect.equal("all held", queue.settledPlace(3), 3);
    }

    private static void promise20Profit() {
        ConsentQueue queue = Queues.of(5, 10, 9, 4, 2, 6, 30, 2);
        long before = queue.digest();
        Expect.equal("profit(0, 0)", queue.profit(0, 0), 145);
        Expect.equal("profit(0, 99)", queue.profit(0, 99), 239);
        Expect.equal("profit(1, 99)", queue.profit(1, 99), -415);
        Expect.equal("profit(3, 0)", queue.profit(3, 0), 0);
        Expect.equal("profit(3, 10)", queue.profit(3, 10), 484);
        Expect.equal("profit changes nothing", queue.digest(), before);
        queue.swap(0);
        ConsentQueue moved = Queues.of(9, 4, 5, 10, 2, 6, 30, 2);
        Expect.equal("money from before is not counted", queue.profit(0, 10),
                moved.profit(1, 10));
        badArgument("profit(0, -1)", queue, () -> queue.profit(0, -1));
        badArgument("profit(0, 100)", queue, () -> queue.profit(0, 100));
        badIndex("profit(4, 100)", queue, () -> queue.profit(4, 100));
        badIndex("profit(-1, 5)", queue, () -> queue.profit(-1, 5));
    }

    private static void promise21BestLie() {
        ConsentQueue queue = Queues.of(5, 10, 9, 4, 2, 6, 30, 2);
        int[] due = {99, 3, 3, 5};
        long before = queue.digest();
        for (int member = 0; member < due.length; member++) {
            Expect.equal("bestLie(" + member + ")", queue.bestLie(member), due[member]);
        }
        Expect.equal("bestLie changes nothing", queue.digest(), before);
        Expect.equal("of several the least", Queues.of(7, 7).bestLie(0), 0);
        badIndex("bestLie(4)", queue, () -> queue.bestLie(4));
        badIndex("bestLie(-1)", queue, () -> queue.bestLie(-1));
    }

    private static void promise22HonestCost() {
        ConsentQueue queue = Queues.of(5, 10, 9, 4, 2, 6, 30, 2);
        for (int member = 0; member < 4; member++) {
            queue.say(member, 1);
        }
        long before = queue.digest();
        Expect.equal("honestCost()", queue.honestCost(), 80);
        Expect.equal("honestCost changes nothing", queue.digest(), before);
        queue.befriend(2);
        Expect.equal("friends are not parted", queue.honestCost(), 648);
        Expect.equal("the best cost does so", queue.whole(4), 80);
    }

    private static void promise23Disorder() {
        ConsentQueue queue = Queues.of(5, 10, 9, 4, 2, 6, 30, 2);
        Expect.equal("disorder()", queue.disorder(), 4);
        queue.say(3, 0);
        Expect.equal("by true worths", queue.disorder(), 4);
        Expect.equal("equal ones are in order", Queues.of(6, 4, 3, 2, 9, 6).disorder(), 0);
        Expect.equal("all turned round", Queues.full().disorder(), 45);
        Expect.equal("nobody", new ConsentQueue().disorder(), 0);
    }

    // ---- command text, undo and checksum

    private static void promise24Type() {
        ConsentQueue queue = new ConsentQueue();
        Expect.equal("type(0)", queue.type(0), 1);
        Expect.equal("type(127)", queue.type(127), 2);
        badArgument("type(-1)", queue, () -> queue.type(-1));
        badArgument("type(128)", queue, () -> queue.type(128));
        for (int length = 3; length <= 150; length++) {
            Expect.equal("type, length", queue.type(' '), length);
        }
        badState("type a byte 151", queue, () -> queue.type(32));
        badArgument("type no byte 151", queue, () -> queue.type(128));
        Expect.equal("length", queue.whole(13), 150);
        Expect.badState("typing is not undoable", () -> queue.undo());
    }

    private static void promise25ClearCommands() {
        ConsentQueue queue = new ConsentQueue();
        Expect.equal("clearCommands(), empty", queue.clearCommands(), 0);
        Queues.type(queue, "join 1 1;");
        Expect.equal("clearCommands()", queue.clearCommands(), 9);
        Expect.equal("length", queue.whole(13), 0);
        Expect.equal("nothing to run", queue.runCommands(), 0);
        Expect.equal("nobody joined", queue.whole(0), 0);
        Queues.type(queue, "join 1 1");
        Expect.equal("what stood behind is gone", queue.runCommands(), -18);
        Expect.equal("only the run is saved", Queues.savedStates(queue), 1);
    }

    private static void promise26RunCommands() {
        ConsentQueue queue = new ConsentQueue();
        Expect.equal("all words", Queues.run(queue, "join 5 10;join 9 4; push 2 6 0 ;say 0 7;"
                + "swap 1;offer 0 9999;take 1;friend 0;part 0;leave 1;serve;settle; "), 12);
        Queues.order("after all words", queue, 0);
        Expect.equal("swaps", queue.whole(9), 2);
        Expect.equal("served", queue.whole(11), 1);
        Expect.equal("the text stays", queue.whole(13), 105);
        Expect.equal("a run saves one state", queue.undo(), 0);
        Expect.equal("the one from before", queue.whole(12), 0);
        Expect.equal("the text is not undone", queue.whole(13), 105);
        Expect.equal("it stops at a refusal",
                Queues.run(queue, "join 1 1;serve;serve;join 1 1;"), 2);
        Expect.equal("nothing behind it", queue.whole(12), 1);
        Expect.equal("an argument out of range", Queues.run(queue, "join 0100 1;join 1 1;"), 0);
        Expect.equal("no such member", Queues.run(queue, "join 1 1;leave 9999;"), 1);
        Expect.equal("zeros in front", Queues.run(queue, "say 0001 0099;"), 1);
        Expect.equal("told", queue.member(1, 2), 99);
        Expect.equal("saved", Queues.savedStates(queue), 4);
        ConsentQueue spaces = new ConsentQueue();
        Expect.equal("spaces alone", Queues.run(spaces, "   "), 0);
        Expect.equal("saved with no command", Queues.savedStates(spaces), 1);
        Expect.equal("many", Queues.run(spaces, "settle;".repeat(21) + "   "), 21);
    }

    private static void fault(String text, int due) {
        ConsentQueue queue = Queues.of(1, 1, 2, 2);
        Expect.equal("\"" + text + "\"", Queues.run(queue, text), -10 - due);
        Expect.equal("\"" + text + "\" does nothing", queue.whole(12), 2);
        Expect.equal("\"" + text + "\" is not saved", Queues.savedStates(queue), 2);
    }

    private static void promise26Faults() {
        fault(";", 0);
        fault("7", 0);
        fault("  Join 1 1;", 2);
        fault("joi 1 1;", 0);
        fault("serve; joins 1 1;", 7);
        fault("joi", 0);
        fault(" x", 1);
        fault("joi#", 0);
        fault("joinz 1 1;", 0);
        fault("ajoin 1 1;", 0);
        fault("join` 1 1;", 4);
        fault("join{ 1 1;", 4);
        fault("join 1/ 1;", 6);
        fault("join 1: 1;", 6);
        fault("join#", 4);
        fault("join", 4);
        fault("join ", 5);
        fault("join5 5;", 4);
        fault("join;", 4);
        fault("join ;", 5);
        fault("join 5;", 6);
        fault("join 5 ;", 7);
        fault("join 5 5", 8);
        fault("join 5 5 ", 9);
        fault("join 5 5 5;", 9);
        fault("join 5 5x;", 8);
        fault("join x 5;", 5);
        fault("join 12345 5;", 9);
        fault("join 00001 5;", 9);
        fault("join 5 12345;", 11);
        fault("join -5 5;", 5);
        fault("serve 0;", 6);
        fault("serve;;", 6);
        fault("serve serve;", 6);
        fault("join 1 1;serve", 14);
        fault("join 1 1;\tserve;", 9);
        fault("serve\0;", 5);
    }

    private static void promise27Undo() {
        ConsentQueue queue = new ConsentQueue();
        long[] digests = new long[6];
        for (int i = 0; i < 6; i++) {
            queue.join(i, 1);
        }
        for (int left = 3; left >= 0; left--) {
            Expect.equal("undo(), left", queue.undo(), left);
            Expect.equal("undo(), members", queue.whole(0), left + 2);
        }
        badState("no more than four", queue, () -> queue.undo());
        Expect.equal("a number is used again", queue.join(9, 9), 2);
        digests[0] = queue.digest();
        Expect.badArgument("refused", () -> queue.join(100, 1));
        queue.settle();
        Expect.equal("a call that is refused saves nothing", queue.undo(), 1);
        Expect.equal("the same state", queue.digest(), digests[0]);
        queue.setSplit(50);
        Expect.equal("saved also if nothing changes", queue.undo(), 1);
        queue.whole(4);
        queue.bestLie(0);
        queue.honestCost();
        Expect.equal("questions save nothing", queue.undo(), 0);
    }

    private static ConsentQueue busyQueue() {
        ConsentQueue queue = Queues.of(5, 10, 9, 4, 2, 6, 30, 2);
        queue.offer(1, 25);
        queue.say(2, 3);
        queue.befriend(2);
        return queue;
    }

    private static void undoes(String what, Refusal.Call call) {
        ConsentQueue queue = busyQueue();
        Queues.type(queue, "serve;serve;");
        long[] before = everything(queue);
        call.on(queue);
        long[] changed = everything(queue);
        Expect.holds(what + " changes something", !java.util.Arrays.equals(before, changed));
        queue.undo();
        Expect.holds(what + " is undone", java.util.Arrays.equals(before, everything(queue)));
    }

    /** All that can be asked; the digest does not do, as it holds the number of saved states. */
    private static long[] everything(ConsentQueue queue) {
        long[] all = new long[200];
        for (int what = 0; what <= 13; what++) {
            all[what] = queue.whole(what);
        }
        int next = 14;
        for (int place = 0; place < queue.whole(0); place++) {
            all[next++] = queue.at(place);
            for (int what = 0; what <= 9; what++) {
                all[next++] = queue.member(queue.at(place), what);
            }
        }
        return all;
    }

    private static void promise27UndoOfEachCall() {
        undoes("join", queue -> queue.join(1, 1));
        undoes("joinAt", queue -> queue.joinAt(1, 1, 1));
        undoes("leave", queue -> queue.leave(2));
        undoes("serve", queue -> queue.serve());
        undoes("say", queue -> queue.say(0, 7));
        undoes("setSplit", queue -> queue.setSplit(7));
        undoes("offer", queue -> queue.offer(2, 7));
        undoes("take", queue -> queue.take(0));
        undoes("swap", queue -> queue.swap(0));
        undoes("befriend", queue -> queue.befriend(0));
        undoes("part", queue -> queue.part(2));
        undoes("settle", queue -> queue.settle());
        undoes("runCommands", queue -> queue.runCommands());
    }

    private static void promise28Digest() {
        ConsentQueue fresh = new ConsentQueue();
        Expect.equal("digest of a new one", fresh.digest(), digestOf(0, fresh));
        ConsentQueue queue = busyQueue();
        Expect.equal("digest", queue.digest(), digestOf(4, queue));
        queue.undo();
        Queues.type(queue, "serve");
        Expect.equal("digest of a text", queue.digest(), digestOf(3, queue));
        long before = queue.digest();
        queue.settle();
        queue.undo();
        Expect.equal("digest after settle() and undo()", queue.digest(), before);
        queue.undo();
        Expect.holds("the number of saved states counts", queue.digest() != digestOf(3, queue));
    }

    /** The digest that is due, by the other calls. */
    private static long digestOf(int saved, ConsentQueue queue) {
        long hash = 31 * 43842L + saved;
        for (int what = 0; what <= 13; what++) {
            hash = 31 * hash + queue.whole(what);
        }
        for (int place = 0; place < queue.whole(0); place++) {
            hash = 31 * hash + queue.at(place);
            for (int what = 0; what <= 9; what++) {
                hash = 31 * hash + queue.member(queue.at(place), what);
            }
        }
        for (int place = 0; place + 1 < queue.whole(0); place++) {
            for (int what = 0; what <= 4; what++) {
                hash = 31 * hash + queue.pair(place, what);
            }
            hash = 31 * hash + queue.reason(place);
        }
        return 31 * hash + queue.disorder();
    }
}
