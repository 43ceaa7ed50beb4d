/** The examples of README.md, call by call, with the answers that stand there. */
final class ReadmeTest {
    private ReadmeTest() {
    }

    public static void main(String[] args) {
        Expect.sentence("README: how an object is made and called", ReadmeTest::calls);
        Expect.sentence("README: texts of commands", ReadmeTest::text);
        Expect.finish();
    }

    private static void calls() {
        ConsentQueue queue = new ConsentQueue();
        Expect.equal("join(5, 10)", queue.join(5, 10), 0);
        Expect.equal("join(9, 4)", queue.join(9, 4), 1);
        Expect.equal("pair(0, 2)", queue.pair(0, 2), 70);
        Expect.equal("pair(0, 3)", queue.pair(0, 3), 55);
        Expect.equal("swap(0)", queue.swap(0), 55);
        Expect.equal("at(0)", queue.at(0), 1);
        Expect.equal("member(0, 6)", queue.member(0, 6), 55);
        Expect.equal("undo()", queue.undo(), 2);
        Expect.badIndex("swap(7)", () -> queue.swap(7));
    }

    private static void text() {
        ConsentQueue queue = new ConsentQueue();
        String text = "join 5 10; join 9 4; swap 0; swap 0; serve;";
        for (int i = 0; i < text.length(); i++) {
            queue.type(text.charAt(i));
        }
        Expect.equal("runCommands()", queue.runCommands(), 3);
        Expect.equal("undo()", queue.undo(), 0);
        Expect.equal("members", queue.whole(0), 0);
        Expect.equal("clearCommands()", queue.clearCommands(), 43);
        Expect.equal("type('!')", queue.type('!'), 1);
        Expect.equal("a fault", queue.runCommands(), -10);
    }
}
