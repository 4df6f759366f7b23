/** Promise 2, and how the text is used up by the calls that read it. */
public final class FeedTest {
    public static void main(String[] args) {
        counts();
        limits();
        usedUp();
        staysElsewhere();
        Checks.end("FeedTest");
    }

    private static void counts() {
        VersionSolver x = new VersionSolver();
        // "2.0.1" with rubbish above: only the five lowest bytes count, the lowest one first
        Checks.due("five of eight bytes", 5, () -> x.feed(0xFFFFFF312E302E32L, 5));
        Checks.due("published", 0, () -> x.publish(0));
        Checks.due("met", true, () -> Checks.meets(x, 0, "=2.0.1"));
        Checks.due("8 bytes of a negative long", 8, () -> x.feed(-1L, 8));
        Checks.due("one more", 9, () -> x.feed(0, 1));
        Checks.due("told", 9, () -> x.told(4));
    }

    private static void limits() {
        VersionSolver x = new VersionSolver();
        for (int n : new int[] {0, 9, -1, Integer.MIN_VALUE, Integer.MAX_VALUE}) {
            Checks.due("feed of " + n, Checks.ARGUMENT, () -> x.feed(1, n));
        }
        for (int i = 1; i <= 19; i++) {
            int due = 8 * i;
            Checks.due("feed to " + due, due, () -> x.feed(0x2020202020202020L, 8));
        }
        Checks.due("feed to 159", 159, () -> x.feed(0x20202020202020L, 7));
        Checks.due("feed to 161", Checks.STATE, () -> x.feed(0x2020, 2));
        Checks.due("it stays", 159, () -> x.told(4));
        Checks.due("feed to 160", 160, () -> x.feed('*', 1));
        Checks.due("feed to 161", Checks.STATE, () -> x.feed('*', 1));
        Checks.due("a wrong n comes first", Checks.ARGUMENT, () -> x.feed('*', 9));
        Checks.due("it stays", 160, () -> x.told(4));
        Checks.due("159 blanks and a star", VersionSolver.NONE, () -> x.best(0));
        Checks.due("used up", 0, () -> x.told(4));
    }

    private static void usedUp() {
        VersionSolver x = new VersionSolver();
        Checks.publish(x, 0, "1.0.0");
        String[] texts = {"*", "rubbish"};
        for (String text : texts) {
            for (int number : new int[] {0, -1, 8, 40}) {
                empties(x, text, "publish", () -> x.publish(number));
                empties(x, text, "want", () -> {
                    x.want(number);
                    return null;
                });
                empties(x, text, "meets", () -> x.meets(number));
                empties(x, text, "best", () -> x.best(number));
            }
        }
        empties(x, "1.0.0", "publish the same", () -> x.publish(0));
        empties(x, "1.0.1", "publish", () -> x.publish(0));
    }

    private static void empties(VersionSolver x, String text, String what, Checks.Call call) {
        Checks.feed(x, text);
        Checks.answerOf(call);
        Checks.due("the text behind " + what + " of " + text, 0, () -> x.told(4));
    }

    /** Calls that do not read the text leave it, also when they throw. */
    private static void staysElsewhere() {
        VersionSolver x = new VersionSolver();
        Checks.publish(x, 0, "1.0.0");
        Checks.feed(x, "~1.0");
        Checks.answerOf(() -> x.feed(1, 0));
        for (int number : new int[] {0, 99}) {
            Checks.answerOf(() -> x.yank(number, false));
            Checks.answerOf(() -> x.drop(number));
            Checks.answerOf(() -> x.chosen(number));
            Checks.answerOf(() -> x.pin(number));
            Checks.answerOf(() -> x.compare(number, 0));
            Checks.answerOf(() -> x.needs(number, 0));
            Checks.answerOf(() -> x.fileByte(number));
        }
        x.solve();
        x.lock();
        x.unlock();
        x.write();
        Checks.due("the text", 4, () -> x.told(4));
        Checks.due("it is still a requirement", true, () -> x.meets(0));
    }
}
