/** Makes queues for the tests, types texts into them, and looks at their order. */
final class Queues {
    private Queues() {
    }

    /** A queue of members given by worth and service time, one after the other. */
    static ConsentQueue of(int... worthsAndServices) {
        ConsentQueue queue = new ConsentQueue();
        for (int i = 0; i + 1 < worthsAndServices.length; i += 2) {
            queue.join(worthsAndServices[i], worthsAndServices[i + 1]);
        }
        return queue;
    }

    static ConsentQueue empty() {
        return new ConsentQueue();
    }

    static ConsentQueue alone() {
        return of(5, 10);
    }

    /** Ten members, of whom each one behind would swap with each one ahead. */
    static ConsentQueue full() {
        return of(1, 1, 2, 1, 3, 1, 4, 1, 5, 1, 6, 1, 7, 1, 8, 1, 9, 1, 10, 1);
    }

    /**
     * Something of everything: members 1, 3, 2, 4 and 5 in this order, after one swap and one
     * service; money, a lie, two offers (that of 3 would be taken, that of 2 not), a pair of
     * friends (4 and 5), a full undo stack, a text.
     */
    static ConsentQueue busy() {
        ConsentQueue queue = of(5, 10, 9, 4, 2, 6, 30, 2, 40, 3, 1, 1);
        queue.setSplit(40);
        queue.swap(2);
        queue.serve();
        queue.say(2, 3);
        queue.offer(2, 25);
        queue.offer(3, 100);
        queue.befriend(3);
        type(queue, "say 3 7;settle; serve;");
        return queue;
    }

    /** Ten members with all pairs friends, a full undo stack and a full text. */
    static ConsentQueue fullOfFriends() {
        ConsentQueue queue = full();
        for (int place = 0; place < 9; place++) {
            queue.befriend(place);
        }
        type(queue, " ".repeat(144) + "serve;");
        return queue;
    }

    static void type(ConsentQueue queue, String text) {
        for (int i = 0; i < text.length(); i++) {
            queue.type(text.charAt(i));
        }
    }

    /** Runs this text in place of the one that stood there. */
    static int run(ConsentQueue queue, String text) {
        queue.clearCommands();
        type(queue, text);
        return queue.runCommands();
    }

    static int savedStates(ConsentQueue queue) {
        int saved = 0;
        for (int i = 0; i < 10; i++) {
            try {
                queue.undo();
                saved++;
            } catch (IllegalStateException empty) {
                return saved;
            }
        }
        return saved;
    }

    static void order(String what, ConsentQueue queue, int... numbers) {
        Expect.equal(what + ", members", queue.whole(0), numbers.length);
        for (int place = 0; place < numbers.length; place++) {
            Expect.equal(what + ", place " + place, queue.at(place), numbers[place]);
        }
    }
}
