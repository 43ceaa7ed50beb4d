import java.math.BigInteger;

/** The boundaries that promises 24 to 28 name, a test for each sentence that names one. */
final class TextBoundariesTest {
    private static final int MIN = Integer.MIN_VALUE;
    private static final int MAX = Integer.MAX_VALUE;
    private static final int[] NO_BYTE = {-1, 128, 255, 256, MIN, MAX};
    private static final String[] WORDS = {"join", "push", "leave", "say", "offer", "take",
        "swap", "friend", "part", "serve", "settle"};
    private static final int[] NUMBERS = {2, 3, 1, 2, 2, 1, 1, 1, 1, 0, 0};

    /** Worked out outside of Java, by whole numbers without a bound. */
    private static final long NEW_DIGEST = 6222756127112120400L;
    private static final long ALONE_DIGEST = 6585482191278980197L;

    private TextBoundariesTest() {
    }

    public static void main(String[] args) {
        type();
        clearCommands();
        texts();
        faults();
        runCommands();
        undo();
        digest();
        Expect.finish();
    }

    // ---- promise 24

    private static ConsentQueue fullText() {
        ConsentQueue queue = Queues.of(1, 1, 2, 2);
        Queues.type(queue, " ".repeat(144) + "serve;");
        return queue;
    }

    private static void type() {
        Expect.sentence("Promise 24: value 0 to 127, let in", () -> {
            ConsentQueue queue = new ConsentQueue();
            for (int value = 0; value <= 127; value++) {
                Expect.equal("type(" + value + ")", queue.type(value), value + 1);
            }
            Expect.equal("whole(13)", queue.whole(13), 128);
        });
        Expect.sentence("Promise 24: value 0 to 127, refused", () -> {
            Refusal.arguments("type", Queues::busy, (q, v) -> q.type(v), NO_BYTE);
            Refusal.arguments("type", Queues::empty, (q, v) -> q.type(v), NO_BYTE);
        });
        Expect.sentence("Promise 24: at most 150 bytes", () -> {
            ConsentQueue queue = new ConsentQueue();
            for (int length = 1; length <= 150; length++) {
                Expect.equal("type()", queue.type('a'), length);
            }
            Expect.equal("whole(13)", queue.whole(13), 150);
            Expect.badState("byte 151", () -> queue.type('a'));
            Expect.badState("byte 151 again", () -> queue.type(0));
            Refusal.state("byte 151", TextBoundariesTest::fullText, full -> full.type(' '));
            Refusal.state("byte 151", Queues::fullOfFriends, full -> full.type(127));
            queue.clearCommands();
            Expect.equal("room again", queue.type('a'), 1);
        });
        Expect.sentence("Promise 24: a wrong value comes before a full text", () ->
                Refusal.arguments("type", TextBoundariesTest::fullText, (q, v) -> q.type(v),
                        NO_BYTE));
        Expect.sentence("Promise 24: not undoable", () ->
                Undoable.not("type", Queues::busy, queue -> queue.type('x')));
    }

    // ---- promise 25

    private static void clearCommands() {
        Expect.sentence("Promise 25: returns the length that it had", () -> {
            Expect.equal("empty", Queues.empty().clearCommands(), 0);
            ConsentQueue queue = fullText();
            Expect.equal("full", queue.clearCommands(), 150);
            Expect.equal("empty again", queue.clearCommands(), 0);
            Expect.equal("whole(13)", queue.whole(13), 0);
            queue.type(127);
            Expect.equal("one byte", queue.clearCommands(), 1);
        });
        Expect.sentence("Promise 25: what stood there is gone", () -> {
            ConsentQueue queue = fullText();
            queue.clearCommands();
            Expect.equal("nothing to run", queue.runCommands(), 0);
            Queues.type(queue, " ".repeat(144));
            Expect.equal("nothing behind spaces", queue.runCommands(), 0);
            Expect.equal("both stay", queue.whole(0), 2);
        });
        Expect.sentence("Promise 25: not undoable", () ->
                Undoable.not("clearCommands", Queues::busy, ConsentQueue::clearCommands));
    }

    // ---- promise 26, texts without a fault

    private static ConsentQueue typed(String text) {
        ConsentQueue queue = Queues.of(1, 1, 2, 2, 3, 1);
        Queues.type(queue, text);
        return queue;
    }

    /** The text has no fault; its first command, if any, is refused or carried out. */
    private static void fine(String text) {
        Expect.holds("\"" + text + "\" has no fault", typed(text).runCommands() >= 0);
        Undoable.check("run \"" + text + "\"", () -> typed(text), ConsentQueue::runCommands);
    }

    private static void faultAt(int index, String text) {
        String what = "\"" + text + "\"";
        Expect.equal(what, typed(text).runCommands(), -10 - index);
        Undoable.not(what, () -> typed(text), ConsentQueue::runCommands);
        ConsentQueue queue = typed(text);
        queue.runCommands();
        Expect.equal(what + " stays", queue.clearCommands(), text.length());
    }

    private static String spelled(int word, String eachNumber) {
        return WORDS[word] + eachNumber.repeat(NUMBERS[word]);
    }

    private static void texts() {
        Expect.sentence("Promise 26, Terms: empty or spaces alone is no fault", () -> {
            for (int length : new int[] {0, 1, 2, 149, 150}) {
                fine(" ".repeat(length));
                Expect.equal(length + " spaces", typed(" ".repeat(length)).runCommands(), 0);
            }
        });
        Expect.sentence("Promise 26, Terms: where spaces may stand", () -> {
            for (int word = 0; word < WORDS.length; word++) {
                fine(spelled(word, " 1") + ";");
                fine("   " + spelled(word, "   1") + "   ;   ");
                fine(spelled(word, " 1") + ";" + spelled(word, " 1") + ";");
            }
        });
        Expect.sentence("Promise 26, Terms: numbers of one to four digits", () -> {
            for (int word = 0; word < WORDS.length; word++) {
                for (String number : new String[] {"0", "9", "10", "099", "9999", "0000"}) {
                    fine(spelled(word, " " + number) + ";");
                }
            }
        });
        Expect.sentence("Promise 26, Terms: zeros in front are allowed", () -> {
            ConsentQueue queue = typed("join 0099 0030;push 000 001 03;leave 0000;say 0001 0007;"
                    + "offer 02 0099;take 1;friend 00;part 000;swap 0000;");
            Expect.equal("nine", queue.runCommands(), 9);
            Expect.equal("worth", queue.member(3, 1), 99);
            Expect.equal("time", queue.member(3, 3), 30);
            Expect.equal("told", queue.member(1, 2), 7);
            Queues.order("all of them", queue, 1, 2, 4, 3);
        });
        Expect.sentence("Promise 26, Terms: a number out of its range is no fault", () -> {
            for (int word = 0; word < WORDS.length; word++) {
                if (NUMBERS[word] > 0) {
                    fine(spelled(word, " 9999") + ";");
                    Expect.equal(WORDS[word],
                            typed(spelled(word, " 9999") + ";serve;").runCommands(), 0);
                }
            }
        });
        Expect.sentence("Promise 26, Terms: a text of 150 bytes runs to its end", () -> {
            Expect.equal("settle", typed("settle;".repeat(21) + "   ").runCommands(), 21);
            Expect.equal("25", typed("say 1;".repeat(25)).runCommands(), -10 - 5);
            Expect.equal("serve at the end", fullText().runCommands(), 1);
            Expect.equal("one short command after the other",
                    typed("serve;serve;" + "settle;".repeat(19) + "serve").runCommands(), -160);
            ConsentQueue many = typed("say 0 1;".repeat(18) + "serve;");
            Expect.equal("whole(13)", many.whole(13), 150);
            Expect.equal("nineteen", many.runCommands(), 19);
            Expect.equal("served", many.whole(11), 1);
        });
    }

    // ---- promise 26, faults

    private static void faults() {
        Expect.sentence("Promise 26, Terms: a word is at fault with its first byte",
                TextBoundariesTest::wordFaults);
        Expect.sentence("Promise 26, Terms: a word is complete before a byte none of a to z",
                TextBoundariesTest::wordEnds);
        Expect.sentence("Promise 26, Terms: the length if it ends too soon",
                TextBoundariesTest::endsTooSoon);
        Expect.sentence("Promise 26, Terms: at least one space in front of a number",
                TextBoundariesTest::missingSpaces);
        Expect.sentence("Promise 26, Terms: a fifth digit cannot stand",
                TextBoundariesTest::fifthDigits);
        Expect.sentence("Promise 26, Terms: too few and too many numbers",
                TextBoundariesTest::wrongCounts);
        Expect.sentence("Promise 26, Terms: bytes next to those that can stand",
                TextBoundariesTest::wrongBytes);
        Expect.sentence("Promise 26, Terms: the fault is that of the text as it is now", () -> {
            ConsentQueue queue = typed("say 0 7");
            Expect.equal("ends too soon", queue.runCommands(), -17);
            Expect.equal("still so", queue.runCommands(), -17);
            queue.type(';');
            Expect.equal("it goes on", queue.runCommands(), 1);
            Expect.equal("told", queue.member(0, 2), 7);
            queue.type(';');
            Expect.equal("one too many", queue.runCommands(), -18);
            Expect.equal("emptied", queue.clearCommands(), 9);
            Expect.equal("no fault now", queue.runCommands(), 0);
            Expect.equal("another one", Queues.run(queue, "x"), -10);
            Expect.equal("a fine one", Queues.run(queue, "say 1 8;serve;"), 2);
        });
        Expect.sentence("Promise 26, Terms: the first of several faults", () -> {
            faultAt(2, "  joi 1;serve;x");
            faultAt(9, "join 1 1 x; zzz;");
            faultAt(0, ";;");
            faultAt(6, "serve;;");
            faultAt(7, "serve; abc 1;;");
            faultAt(149, " ".repeat(149) + "x");
            faultAt(0, "x".repeat(150));
            faultAt(149, "settle;".repeat(21) + "  ;");
        });
    }

    private static void wordFaults() {
        for (String word : WORDS) {
            for (int length = 1; length < word.length(); length++) {
                String beginning = word.substring(0, length);
                faultAt(0, beginning);
                faultAt(0, beginning + " 1 1;");
                faultAt(0, beginning + ";");
                faultAt(3, "   " + beginning);
                faultAt(6, "serve;" + beginning);
            }
            faultAt(0, word + "s");
            faultAt(0, word + "a 1 1;");
            faultAt(0, "z" + word + ";");
            faultAt(1, " " + word + word + ";");
            faultAt(0, word.substring(1) + ";");
            for (int letter = 0; letter < word.length(); letter++) {
                faultAt(0, word.substring(0, letter) + "q" + word.substring(letter + 1) + ";");
            }
        }
        faultAt(0, "a");
        faultAt(0, "z");
        faultAt(6, "serve;abc");
        faultAt(7, "serve; abc ");
    }

    private static void wordEnds() {
        for (char end : new char[] {0, 31, 33, '#', '/', '0', '9', ':', '@', 'A', 'Z', '`', '{',
            127}) {
            faultAt(0, "joi" + end);
            faultAt(4, "join" + end);
            faultAt(5, "serve" + end);
            faultAt(0, "" + end);
            faultAt(1, " " + end);
        }
        faultAt(0, "joina");
        faultAt(0, "joinz");
    }

    private static void endsTooSoon() {
        for (int word = 0; word < WORDS.length; word++) {
            StringBuilder text = new StringBuilder(WORDS[word]);
            faultAt(text.length(), text.toString());
            for (int number = 0; number < NUMBERS[word]; number++) {
                for (char next : new char[] {' ', ' ', '1', '2', '3', '4'}) {
                    text.append(next);
                    faultAt(text.length(), text.toString());
                }
            }
            text.append(' ');
            faultAt(text.length(), text.toString());
        }
        faultAt(150, " ".repeat(145) + "serve");
        faultAt(150, " ".repeat(144) + "join 1");
    }

    private static void missingSpaces() {
        for (int word = 0; word < WORDS.length; word++) {
            if (NUMBERS[word] > 0) {
                faultAt(WORDS[word].length(), WORDS[word] + "1 1 1;");
            }
        }
        faultAt(7, "join 11;");
        faultAt(6, "join 1,1;");
        faultAt(4, "join\t1 1;");
        faultAt(6, "join 1\n1;");
        faultAt(4, "join");
    }

    private static void fifthDigits() {
        for (int word = 0; word < WORDS.length; word++) {
            StringBuilder front = new StringBuilder(WORDS[word]);
            for (int number = 0; number < NUMBERS[word]; number++) {
                faultAt(front.length() + 5, front + " 12345 1 1;");
                faultAt(front.length() + 5, front + " 00001;");
                faultAt(front.length() + 6, front + "  99999");
                front.append(" 1");
            }
        }
    }

    private static void wrongCounts() {
        for (int word = 0; word < WORDS.length; word++) {
            StringBuilder text = new StringBuilder(WORDS[word]);
            for (int number = 0; number < NUMBERS[word]; number++) {
                faultAt(text.length(), text + ";");
                faultAt(text.length() + 1, text + " ;");
                faultAt(text.length() + 1, text + " serve;");
                text.append(" 1");
            }
            faultAt(text.length() + 1, text + " 1;");
            faultAt(text.length() + 1, text + " serve;");
            faultAt(text.length() + 2, text + "  0");
        }
    }

    private static void wrongBytes() {
        for (char wrong : new char[] {0, 31, 33, '/', ':', '<', 'a', '-', '+', '.', 127}) {
            faultAt(5, "join " + wrong + " 1;");
            faultAt(6, "join 1" + wrong + " 1;");
            faultAt(7, "join 1 " + wrong + ";");
            faultAt(8, "join 1 1" + wrong + ";");
            faultAt(9, "join 1 1 " + wrong + ";");
            faultAt(6, "serve " + wrong);
        }
        for (char wrong : new char[] {0, 9, 10, 31, 33, '0', ';', 'A', 'Z', '`', '{', 127}) {
            faultAt(6, "serve;" + wrong);
            faultAt(7, "serve; " + wrong + "serve;");
        }
    }

    // ---- promise 26, runs

    private static void runCommands() {
        Expect.sentence("Promise 26: each word is its call", TextBoundariesTest::eachWord);
        Expect.sentence("Promise 26: until one would throw; those before it alone count",
                TextBoundariesTest::refusedCommands);
        Expect.sentence("Promise 26: the limits of the numbers of each word",
                TextBoundariesTest::limitsOfNumbers);
        Expect.sentence("Promise 26: it saves one state, its commands none", () -> {
            Undoable.check("a run", Queues::busy, ConsentQueue::runCommands);
            Undoable.check("five joins", () -> typed("join 1 1;".repeat(5)),
                    ConsentQueue::runCommands);
            Undoable.check("one refused at once", () -> typed("leave 9;serve;"),
                    ConsentQueue::runCommands);
            Undoable.check("one refused then", () -> typed("serve;leave 0;serve;"),
                    ConsentQueue::runCommands);
        });
        Expect.sentence("Promise 26: the text stays as it is", () -> {
            ConsentQueue queue = typed("serve; settle;");
            Expect.equal("the first run", queue.runCommands(), 2);
            Expect.equal("the second run", queue.runCommands(), 2);
            Expect.equal("the third run", queue.runCommands(), 2);
            Expect.equal("nobody is left", queue.runCommands(), 0);
            Expect.equal("whole(13)", queue.whole(13), 14);
        });
    }

    /** A run of one command, and its call on a twin, lead to the same. */
    private static void same(String text, Refusal.Call call) {
        ConsentQueue run = Queues.busy();
        Expect.equal("\"" + text + "\"", Queues.run(run, text), 1);
        ConsentQueue called = Queues.busy();
        call.on(called);
        Expect.holds("\"" + text + "\" is its call",
                Snapshot.ofState(run).equals(Snapshot.ofState(called)));
    }

    private static void eachWord() {
        same("join 7 8;", queue -> queue.join(7, 8));
        same("push 7 8 2;", queue -> queue.joinAt(7, 8, 2));
        same("leave 2;", queue -> queue.leave(2));
        same("say 3 99;", queue -> queue.say(3, 99));
        same("offer 5 9999;", queue -> queue.offer(5, 9999));
        same("take 1;", queue -> queue.take(1));
        same("swap 0;", queue -> queue.swap(0));
        same("friend 1;", queue -> queue.befriend(1));
        same("part 3;", queue -> queue.part(3));
        same("serve;", ConsentQueue::serve);
        same("settle;", ConsentQueue::settle);
    }

    /** Behind one command that is carried out, this one is refused, and the next is not begun. */
    private static void stopsAt(String refused) {
        ConsentQueue run = Queues.busy();
        Expect.equal("\"" + refused + "\"",
                Queues.run(run, "say 5 50;" + refused + "say 5 60;"), 1);
        ConsentQueue due = Queues.busy();
        due.say(5, 50);
        Expect.holds("\"" + refused + "\" does nothing",
                Snapshot.ofState(run).equals(Snapshot.ofState(due)));
    }

    private static void refusedCommands() {
        for (String refused : new String[] {"join 100 1;", "join 1 31;", "join 1 0;",
            "push 100 1 0;", "push 1 0 0;", "push 1 31 0;", "push 1 1 6;", "push 1 1 4;",
            "leave 0;", "leave 6;", "say 0 5;", "say 6 5;", "say 5 100;", "offer 0 5;",
            "offer 1 5;", "take 0;", "take 2;", "take 3;", "take 5;", "swap 1;", "swap 2;",
            "swap 3;", "swap 4;", "friend 3;", "friend 4;", "part 0;", "part 4;"}) {
            stopsAt(refused);
        }
        ConsentQueue queue = Queues.empty();
        Expect.equal("serve of nobody", Queues.run(queue, "serve;join 1 1;"), 0);
        Expect.equal("nobody joined", queue.whole(12), 0);
        Expect.equal("eleven", Queues.run(queue, "join 1 1;".repeat(11)), 10);
        Expect.equal("ten", queue.whole(12), 10);
        Expect.equal("twelve", Queues.run(queue, "settle;push 1 1 5;settle;"), 1);
    }

    private static void limitsOfNumbers() {
        runs(1, "join 0 1;");
        runs(1, "join 99 30;");
        runs(1, "push 0 1 0;");
        runs(1, "push 99 30 3;");
        runs(0, "push 99 30 5;");
        runs(1, "leave 2;");
        runs(0, "leave 3;");
        runs(1, "say 2 99;");
        runs(1, "say 2 0;");
        runs(0, "say 2 100;");
        runs(1, "offer 2 9999;");
        runs(1, "offer 1 0;");
        runs(0, "offer 0 0;");
        runs(1, "swap 1;");
        runs(0, "swap 2;");
        runs(1, "friend 1;");
        runs(0, "friend 2;");
    }

    private static void runs(int due, String text) {
        Expect.equal("\"" + text + "\"", typed(text).runCommands(), due);
    }

    // ---- promise 27

    private static ConsentQueue saved(int states) {
        ConsentQueue queue = new ConsentQueue();
        for (int i = 0; i < states; i++) {
            queue.setSplit(i);
        }
        return queue;
    }

    private static void undo() {
        Expect.sentence("Promise 27: refused if the stack is empty", () -> {
            Refusal.state("undo() of a new one", Queues::empty, ConsentQueue::undo);
            Refusal.state("undo() behind all", TextBoundariesTest::allUndone, ConsentQueue::undo);
            Refusal.state("undo() behind a text", () -> {
                ConsentQueue queue = Queues.empty();
                Queues.type(queue, "joi");
                queue.runCommands();
                return queue;
            }, ConsentQueue::undo);
        });
        Expect.sentence("Promise 27: returns the number of states that are left", () -> {
            for (int states = 1; states <= 6; states++) {
                ConsentQueue queue = saved(states);
                int kept = states < 4 ? states : 4;
                for (int left = kept - 1; left >= 0; left--) {
                    Expect.equal("undo() of " + states, queue.undo(), left);
                    int split = states - kept + left - 1;
                    Expect.equal("split", queue.whole(1), split < 0 ? 50 : split);
                }
                Expect.badState("no more of " + states, () -> queue.undo());
            }
        });
        Expect.sentence("Promise 27: a stack that was full is filled again", () -> {
            ConsentQueue queue = saved(7);
            queue.undo();
            queue.undo();
            for (int split = 90; split <= 95; split++) {
                queue.setSplit(split);
            }
            int[] due = {94, 93, 92, 91};
            for (int i = 0; i < 4; i++) {
                Expect.equal("undo()", queue.undo(), 3 - i);
                Expect.equal("split", queue.whole(1), due[i]);
            }
            Expect.badState("no more", () -> queue.undo());
        });
        Expect.sentence("Promise 27: undo() is not undoable", () -> {
            ConsentQueue queue = saved(2);
            queue.undo();
            Expect.equal("the second undo()", queue.undo(), 0);
            Expect.equal("split", queue.whole(1), 50);
        });
        Expect.sentence("Promise 27: the command text stays", () -> {
            ConsentQueue queue = saved(1);
            Queues.type(queue, "serve;");
            queue.undo();
            Expect.equal("typed since", queue.whole(13), 6);
            queue.setSplit(3);
            queue.clearCommands();
            queue.undo();
            Expect.equal("emptied since", queue.whole(13), 0);
        });
    }

    private static ConsentQueue allUndone() {
        ConsentQueue queue = Queues.busy();
        Queues.savedStates(queue);
        return queue;
    }

    // ---- promise 28

    private static void digest() {
        Expect.sentence("Promise 28: it starts with 43842, and all values follow", () -> {
            for (int states = 0; states <= 5; states++) {
                hashed("new, " + states + " saved", saved(states), states < 4 ? states : 4);
            }
            hashed("alone", Queues.alone(), 1);
            hashed("busy", Queues.busy(), 4);
            hashed("full", Queues.full(), 4);
            hashed("full of friends", Queues.fullOfFriends(), 4);
            hashed("all undone", allUndone(), 0);
        });
        Expect.sentence("Promise 28: long arithmetic, overflow wraps", () -> {
            Expect.equal("a new one", Queues.empty().digest(), NEW_DIGEST);
            Expect.equal("one member", Queues.alone().digest(), ALONE_DIGEST);
        });
        Expect.sentence("Promise 28: it changes nothing", () ->
                Undoable.not("digest", Queues::busy, ConsentQueue::digest));
    }

    /** The hash without any bound, of which the low 64 bits are kept in the end. */
    private static void hashed(String what, ConsentQueue queue, int saved) {
        Unbound hash = new Unbound();
        hash.next(saved);
        for (int value = 0; value <= 13; value++) {
            hash.next(queue.whole(value));
        }
        for (int place = 0; place < queue.whole(0); place++) {
            hash.next(queue.at(place));
            for (int value = 0; value <= 9; value++) {
                hash.next(queue.member(queue.at(place), value));
            }
        }
        for (int place = 0; place + 1 < queue.whole(0); place++) {
            for (int value = 0; value <= 4; value++) {
                hash.next(queue.pair(place, value));
            }
            hash.next(queue.reason(place));
        }
        hash.next(queue.disorder());
        Expect.equal(what, queue.digest(), hash.sum.longValue());
        Expect.holds(what + " is too large for a long", hash.sum.bitLength() > 63);
    }

    private static final class Unbound {
        private BigInteger sum = BigInteger.valueOf(43_842);

        private void next(int value) {
            sum = sum.multiply(BigInteger.valueOf(31)).add(BigInteger.valueOf(value));
        }
    }
}
