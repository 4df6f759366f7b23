/** What the document says of an object's life, of the text, and of feed(). */
final class TextSentences {
    private static final long BLANKS = 0x2020202020202020L;

    private TextSentences() {
    }

    static void all(Sentences s) {
        s.test("What it is", "An object is used for at most 512 calls after it has been made", TextSentences::calls512);
        s.test("The public face", "public static final int NONE = -1;",
                () -> Checks.due("NONE", -1, () -> VersionSolver.NONE));
        s.test("Terms", "THE TEXT is what feed() brought, at most 160 bytes;", TextSentences::atMost160);
        s.test("Terms", "each call that reads it uses it up, also when it throws. In it:", TextSentences::usedUp);
        String feed = "Promise 2";
        s.test(feed, "The n lowest of eight bytes come behind the text, the lowest one first", TextSentences::lowestFirst);
        s.test(feed, ": how many it has.", TextSentences::howMany);
        s.test(feed, "IllegalArgument: n is not 1 .. 8.", TextSentences::wrongN);
        s.test(feed, "IllegalState: it would have more than 160; it stays then.", TextSentences::tooLong);
    }

    /** Whatever call is the 512th, it answers as any other. */
    private static void calls512() {
        last("feed", 1, x -> x.feed('1', 1));
        last("publish", Checks.ARGUMENT, x -> x.publish(0));
        last("yank", false, x -> x.yank(0, true));
        last("drop", true, x -> x.drop(0));
        last("solve", 1, VersionSolver::solve);
        last("chosen", 0, x -> x.chosen(0));
        last("lock", 1, VersionSolver::lock);
        last("pin", VersionSolver.NONE, x -> x.pin(0));
        last("unlock", 0, VersionSolver::unlock);
        last("meets", Checks.ARGUMENT, x -> x.meets(0));
        last("best", Checks.ARGUMENT, x -> x.best(0));
        last("compare", 0, x -> x.compare(0, 0));
        last("needs", VersionSolver.NONE, x -> x.needs(0, 0));
        last("told", 1, x -> x.told(2));
        last("write", 8, VersionSolver::write);
        last("fileByte", Checks.INDEX, x -> x.fileByte(0));
        VersionSolver x = new VersionSolver();
        for (int i = 0; i < 255; i++) {
            Checks.want(x, 0, "*");
        }
        Checks.due("the 511th call", 1, () -> x.feed('*', 1));
        Checks.due("the 512th call, want", "nothing thrown", () -> {
            x.want(0);
            return "nothing thrown";
        });
    }

    private interface Last {
        Object answer(VersionSolver x);
    }

    private static void last(String what, Object due, Last call) {
        VersionSolver x = new VersionSolver();
        Checks.publish(x, 0, "1.0.0");
        Checks.want(x, 0, "*");
        x.solve();
        int calls = 5;
        for (; calls < 511; calls++) {
            x.solve();
        }
        Checks.due("the 512th call, " + what, due, () -> call.answer(x));
    }

    private static void fillTo(VersionSolver x, int length) {
        while (x.told(4) + 8 <= length) {
            x.feed(BLANKS, 8);
        }
        if (x.told(4) < length) {
            x.feed(BLANKS, length - x.told(4));
        }
    }

    /** All of 160 bytes are read; and again, when they were used up. */
    private static void atMost160() {
        VersionSolver x = Checks.registry("0 1.0.0");
        Checks.due("no text is no requirement", Checks.ARGUMENT, () -> x.meets(0));
        for (int time = 0; time < 3; time++) {
            fillTo(x, 159);
            Checks.due("the last byte", 160, () -> x.feed('2', 1));
            Checks.due("159 blanks and a 2", false, () -> x.meets(0));
            fillTo(x, 159);
            Checks.due("the last byte", 160, () -> x.feed('1', 1));
            Checks.due("159 blanks and a 1", true, () -> x.meets(0));
            fillTo(x, 159);
            Checks.due("the last byte", 160, () -> x.feed('x', 1));
            Checks.due("159 blanks and an x", Checks.ARGUMENT, () -> x.meets(0));
        }
        Checks.due("a text behind a longer one", true, () -> Checks.meets(x, 0, "1"));
        Checks.due("its last byte is its end", Checks.ARGUMENT, () -> Checks.meets(x, 0, "1."));
    }

    private static void usedUp() {
        VersionSolver x = Checks.registry("0 1.0.0");
        empties(x, "1.0.1", "publish", 1, () -> x.publish(0));
        empties(x, "1.0.2", "publish", Checks.INDEX, () -> x.publish(8));
        empties(x, "1.0.2;", "publish", Checks.ARGUMENT, () -> x.publish(0));
        empties(x, "1.0.0", "publish", Checks.STATE, () -> x.publish(0));
        empties(x, "*", "want", null, () -> wanted(x, 0));
        empties(x, "*", "want", Checks.INDEX, () -> wanted(x, 8));
        empties(x, "**", "want", Checks.ARGUMENT, () -> wanted(x, 0));
        empties(x, "*", "meets", true, () -> x.meets(0));
        empties(x, "2", "meets", false, () -> x.meets(0));
        empties(x, "*", "meets", Checks.INDEX, () -> x.meets(2));
        empties(x, "**", "meets", Checks.ARGUMENT, () -> x.meets(0));
        empties(x, "*", "best", 1, () -> x.best(0));
        empties(x, "2", "best", VersionSolver.NONE, () -> x.best(0));
        empties(x, "*", "best", Checks.INDEX, () -> x.best(-1));
        empties(x, "**", "best", Checks.ARGUMENT, () -> x.best(0));
        VersionSolver full = Checks.full();
        empties(full, "9.0.0", "publish", Checks.UNSUPPORTED, () -> full.publish(0));
    }

    private static Object wanted(VersionSolver x, int pack) {
        x.want(pack);
        return null;
    }

    private static void empties(VersionSolver x, String text, String what, Object due, Checks.Call call) {
        Checks.feed(x, text);
        Checks.due(what + " of " + text, due, call);
        Checks.due("the text behind it", 0, () -> x.told(4));
        Checks.due("the next text begins anew", 1, () -> x.feed('?', 1));
        Checks.answerOf(() -> x.best(0));
    }

    private static void lowestFirst() {
        String text = "1.2.3-ab";
        for (int n = 5; n <= 8; n++) {
            if (n == 6) {
                continue;
            }
            VersionSolver x = new VersionSolver();
            int many = n;
            Checks.due(n + " of eight bytes", n, () -> x.feed(0x62612D332E322E31L, many));
            Checks.due("are a version", 0, () -> x.publish(4));
            Checks.want(x, 4, ">=0.0.0,1.2.3-0");
            x.solve();
            Checks.due("which is as it came", "4 " + text.substring(0, n) + "\n", () -> Checks.fileOf(x));
        }
        VersionSolver x = Checks.registry("0 1.0.0");
        Checks.due("what is above the lowest does not count", 1, () -> x.feed(0xFFFFFFFFFFFFFF00L | '1', 1));
        Checks.due("nor here", 2, () -> x.feed(0x2020202020202000L | '.', 1));
        Checks.due("nor here", 3, () -> x.feed(Long.MIN_VALUE | '0', 1));
        Checks.due("it came behind the text", true, () -> x.meets(0));
        Checks.due("a byte above 127", 1, () -> x.feed(0xB1, 1));
        Checks.due("is no digit", Checks.ARGUMENT, () -> x.meets(0));
        Checks.due("eight bytes above 127", 8, () -> x.feed(-1L, 8));
        Checks.due("are no requirement", Checks.ARGUMENT, () -> x.meets(0));
        Checks.due("eight bytes 0", 8, () -> x.feed(0L, 8));
        Checks.due("are no requirement", Checks.ARGUMENT, () -> x.meets(0));
    }

    private static void howMany() {
        VersionSolver x = new VersionSolver();
        int due = 0;
        for (int n = 1; n <= 8; n++) {
            int many = n;
            due += n;
            Checks.due("feed of " + n, due, () -> x.feed(Long.MAX_VALUE, many));
        }
        for (int n = 8; n >= 1; n--) {
            int many = n;
            due += n;
            Checks.due("feed of " + n, due, () -> x.feed(Long.MIN_VALUE, many));
        }
        Checks.due("told", due, () -> x.told(4));
    }

    private static void wrongN() {
        for (int n : new int[] {0, 9, -1, -8, 256, 257, Integer.MIN_VALUE, Integer.MIN_VALUE + 8, Integer.MAX_VALUE}) {
            VersionSolver x = new VersionSolver();
            Checks.due("feed of " + n, Checks.ARGUMENT, () -> x.feed('*', n));
            Checks.due("no text came", 0, () -> x.told(4));
            Checks.due("the least", 1, () -> x.feed('*', 1));
            Checks.due("the most", 9, () -> x.feed(BLANKS, 8));
            Checks.due("feed of " + n, Checks.ARGUMENT, () -> x.feed('*', n));
            Checks.due("the text is as it was", 9, () -> x.told(4));
            Checks.due("to the letter", VersionSolver.NONE, () -> x.best(0));
        }
    }

    private static void tooLong() {
        for (int n = 1; n <= 8; n++) {
            int many = n;
            VersionSolver x = Checks.registry("0 1.0.0");
            x.feed('1', 1);
            fillTo(x, 161 - n);
            Checks.due("feed of " + n + " to 161", Checks.STATE, () -> x.feed(-1L, many));
            Checks.due("it stays", 161 - n, () -> x.told(4));
            if (n > 1) {
                Checks.due("feed to 160", 160, () -> x.feed(BLANKS, many - 1));
            }
            Checks.due("feed of " + n + " at 160", Checks.STATE, () -> x.feed(-1L, many));
            Checks.due("feed of 1 at 160", Checks.STATE, () -> x.feed(' ', 1));
            Checks.due("it stays", 160, () -> x.told(4));
            Checks.due("to the letter", true, () -> x.meets(0));
            Checks.due("then there is room again", n, () -> x.feed(-1L, many));
        }
    }
}
