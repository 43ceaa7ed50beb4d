/** Holds long runs of calls, drawn from a fixed sequence, against the plain model. */
final class RandomRunsTest {
    private static final int RUNS = 400;
    private static final int CALLS = 512;
    private static final String[] NAMES = {"join", "joinAt", "leave", "serve", "say", "setSplit",
        "offer", "take", "swap", "befriend", "part", "settle", "member", "at", "pair", "whole",
        "reason", "settledPlace", "profit", "bestLie", "honestCost", "disorder", "type",
        "clearCommands", "runCommands", "undo", "digest"};
    /** How often each of these calls is drawn; joins and offers often, to keep a queue going. */
    private static final int[] WEIGHTS = {14, 10, 3, 3, 10, 3, 16, 12, 8, 5, 4, 2, 6, 3, 4, 6,
        3, 2, 2, 1, 2, 2, 2, 1, 3, 6, 2};
    private static final String[] WORDS = {"join", "push", "leave", "say", "offer", "take",
        "swap", "friend", "part", "serve", "settle", "joi", "joins", "x", ""};
    private static final int[] NUMBERS = {2, 3, 1, 2, 2, 1, 1, 1, 1, 0, 0, 2, 2, 0, 0};
    private static final int[] EXTREMES = {Integer.MIN_VALUE, Integer.MAX_VALUE, -1, 10, 30, 31,
        99, 100, 101, 127, 128, 9999, 10000, Integer.MAX_VALUE - 1, -2};

    private long seed = 2026;

    private RandomRunsTest() {
    }

    public static void main(String[] args) {
        new RandomRunsTest().runAll();
        Expect.finish();
    }

    private void runAll() {
        for (int run = 0; run < RUNS; run++) {
            ConsentQueue queue = new ConsentQueue();
            PlainModel model = new PlainModel();
            for (int left = CALLS; left > 1;) {
                left -= step("run " + run + ", call " + (CALLS - left), queue, model, left);
            }
        }
    }

    /** One drawn call, or the calls that type a drawn text; answers how many calls it made. */
    private int step(String where, ConsentQueue queue, PlainModel model, int left) {
        String name = draw();
        if (name.equals("type") && below(3) > 0) {
            String text = drawText();
            int length = Math.min(text.length(), left - 1);
            for (int i = 0; i < length; i++) {
                compare(where, queue, model, "type", text.charAt(i));
            }
            compare(where, queue, model, "runCommands");
            return length + 1;
        }
        compare(where, queue, model, name, arguments(name));
        compare(where, queue, model, "digest");
        return 2;
    }

    private String draw() {
        int all = 0;
        for (int weight : WEIGHTS) {
            all += weight;
        }
        int drawn = below(all);
        int index = 0;
        while (drawn >= WEIGHTS[index]) {
            drawn -= WEIGHTS[index];
            index++;
        }
        return NAMES[index];
    }

    private int[] arguments(String name) {
        switch (name) {
            case "join": return new int[] {odd(below(100)), odd(1 + below(30))};
            case "joinAt": return new int[] {odd(below(100)), odd(1 + below(30)), odd(below(11))};
            case "say": return new int[] {odd(below(24)), odd(below(100))};
            case "setSplit": return new int[] {odd(below(101))};
            case "offer": return new int[] {odd(below(24)), odd(below(3000))};
            case "leave": case "take": case "settledPlace": case "bestLie":
                return new int[] {odd(below(24))};
            case "swap": case "befriend": case "part": case "at": case "reason":
                return new int[] {odd(below(10))};
            case "member": return new int[] {odd(below(24)), odd(below(10))};
            case "pair": return new int[] {odd(below(10)), odd(below(5))};
            case "whole": return new int[] {odd(below(14))};
            case "profit": return new int[] {odd(below(24)), odd(below(100))};
            case "type": return new int[] {odd(below(128))};
            default: return new int[0];
        }
    }

    private String drawText() {
        StringBuilder text = new StringBuilder();
        int commands = below(8);
        for (int i = 0; i < commands; i++) {
            int word = below(below(4) == 0 ? WORDS.length : 11);
            text.append(" ".repeat(below(2))).append(WORDS[word]);
            for (int n = 0; n < NUMBERS[word]; n++) {
                text.append(" ".repeat(below(20) == 0 ? 0 : 1 + below(2)));
                text.append("0".repeat(below(3))).append(below(below(9) == 0 ? 12000 : 12));
            }
            text.append(" ".repeat(below(4) == 0 ? 1 : 0)).append(below(15) == 0 ? "" : ";");
        }
        text.append(" ".repeat(below(2)));
        if (text.length() > 0 && below(5) == 0) {
            text.setCharAt(below(text.length()), (char) below(128));
        }
        if (text.length() > 0 && below(8) == 0) {
            text.setLength(below(text.length()));
        }
        return text.toString();
    }

    private int odd(int usual) {
        return below(25) == 0 ? EXTREMES[below(EXTREMES.length)] : usual;
    }

    private int below(int bound) {
        seed = seed * 6364136223846793005L + 1442695040888963407L;
        return (int) ((seed >>> 33) % bound);
    }

    private static void compare(String where, ConsentQueue queue, PlainModel model, String name,
            int... arguments) {
        String what = where + ": " + name + java.util.Arrays.toString(arguments);
        long due;
        try {
            due = model.call(name, arguments);
        } catch (IndexOutOfBoundsException | IllegalArgumentException
                | IllegalStateException refusal) {
            Expect.refused(what, refusal.getClass(), () -> call(queue, name, arguments));
            return;
        }
        try {
            Expect.equal(what, call(queue, name, arguments), due);
        } catch (RuntimeException thrown) {
            Expect.holds(what + " threw " + thrown, false);
        }
    }

    private static long call(ConsentQueue queue, String name, int... a) {
        switch (name) {
            case "join": return queue.join(a[0], a[1]);
            case "joinAt": return queue.joinAt(a[0], a[1], a[2]);
            case "leave": return queue.leave(a[0]);
            case "serve": return queue.serve();
            case "say": return queue.say(a[0], a[1]);
            case "setSplit": return queue.setSplit(a[0]);
            case "offer": return queue.offer(a[0], a[1]);
            case "take": return queue.take(a[0]);
            case "swap": return queue.swap(a[0]);
            case "befriend": return queue.befriend(a[0]);
            case "part": return queue.part(a[0]);
            case "settle": return queue.settle();
            case "member": return queue.member(a[0], a[1]);
            case "at": return queue.at(a[0]);
            case "pair": return queue.pair(a[0], a[1]);
            case "whole": return queue.whole(a[0]);
            case "reason": return queue.reason(a[0]);
            case "settledPlace": return queue.settledPlace(a[0]);
            case "profit": return queue.profit(a[0], a[1]);
            case "bestLie": return queue.bestLie(a[0]);
            case "honestCost": return queue.honestCost();
            case "disorder": return queue.disorder();
            case "type": return queue.type(a[0]);
            case "clearCommands": return queue.clearCommands();
            case "runCommands": return queue.runCommands();
            case "undo": return queue.undo();
            case "digest": return queue.digest();
            default: throw new UnsupportedOperationException(name);
        }
    }
}
