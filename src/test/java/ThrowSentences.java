/** What the document says of calls that throw: which exception, and that nothing else changes. */
final class ThrowSentences {
    private static final int[] NO_PACKS = {-1, 8, Integer.MIN_VALUE, Integer.MAX_VALUE};

    private ThrowSentences() {
    }

    static void all(Sentences s) {
        s.test("Terms", "Where a call names several exceptions, the first one that fits is thrown;",
                ThrowSentences::firstThatFits);
        s.test("Terms", "a call that throws changes nothing but that the text is used up.", ThrowSentences::changesNothing);
    }

    private static void firstThatFits() {
        VersionSolver x = Checks.full();
        for (int none : NO_PACKS) {
            Checks.due("publish: no package, and no publication", Checks.INDEX, () -> Checks.publish(x, none, "9.0"));
            Checks.due("publish: no package, and there are 40", Checks.INDEX, () -> Checks.publish(x, none, "9.0.0"));
            Checks.due("publish: no package, and no text", Checks.INDEX, () -> x.publish(none));
            Checks.due("want: no package, and no requirement", Checks.INDEX, () -> Checks.want(x, none, "1..2"));
            Checks.due("best: no package, and no requirement", Checks.INDEX, () -> Checks.best(x, none, "1..2"));
            Checks.due("best: no package, and no text", Checks.INDEX, () -> x.best(none));
        }
        for (int none : new int[] {-1, 40, Integer.MIN_VALUE, Integer.MAX_VALUE}) {
            Checks.due("meets: no version, and no requirement", Checks.INDEX, () -> Checks.meets(x, none, "1..2"));
            Checks.due("meets: no version, and no text", Checks.INDEX, () -> x.meets(none));
        }
        Checks.due("publish: none, of one that is there", Checks.ARGUMENT, () -> Checks.publish(x, 0, "0.0.0;"));
        Checks.due("publish: none, for two of a package", Checks.ARGUMENT, () -> Checks.publish(x, 0, "0.0.0;1 *;1 *"));
        Checks.due("publish: none, and there are 40", Checks.ARGUMENT, () -> Checks.publish(x, 0, "9.0.0;"));
        Checks.due("publish: no text, and there are 40", Checks.ARGUMENT, () -> x.publish(0));
        Checks.due("publish: it is there, and there are 40", Checks.STATE, () -> Checks.publish(x, 0, "0.0.0"));
        Checks.due("publish: there are 40", Checks.UNSUPPORTED, () -> Checks.publish(x, 0, "9.0.0"));
        VersionSolver y = Checks.registry("0 1.0.0");
        Checks.due("publish: none, and it is there", Checks.ARGUMENT, () -> Checks.publish(y, 0, "1.0.0;0 *;0 *"));
        for (int i = 0; i < 20; i++) {
            y.feed(0, 8);
        }
        for (int n : new int[] {0, 9, -1, Integer.MIN_VALUE, Integer.MAX_VALUE}) {
            Checks.due("feed: a wrong n, and more than 160", Checks.ARGUMENT, () -> y.feed(0, n));
        }
    }

    private interface Deed {
        void on(VersionSolver x);
    }

    private static void changesNothing() {
        for (int none : NO_PACKS) {
            leaves("publish", Checks.INDEX, "9.0.0", x -> x.publish(none));
            leaves("want", Checks.INDEX, "1", x -> x.want(none));
            leaves("best", Checks.INDEX, "1", x -> x.best(none));
            leaves("drop", Checks.INDEX, null, x -> x.drop(none));
            leaves("chosen", Checks.INDEX, null, x -> x.chosen(none));
        }
        for (int none : new int[] {-1, 9, 40, Integer.MIN_VALUE, Integer.MAX_VALUE}) {
            leaves("meets", Checks.INDEX, "1", x -> x.meets(none));
            leaves("yank", Checks.INDEX, null, x -> x.yank(none, true));
            leaves("yank back", Checks.INDEX, null, x -> x.yank(none, false));
            leaves("pin", Checks.INDEX, null, x -> x.pin(none));
            leaves("compare", Checks.INDEX, null, x -> x.compare(0, none));
            leaves("needs", Checks.INDEX, null, x -> x.needs(none, 0));
        }
        leaves("fileByte", Checks.INDEX, null, x -> x.fileByte(-1));
        leaves("fileByte", Checks.INDEX, null, x -> x.fileByte(500));
        leaves("feed", Checks.ARGUMENT, null, x -> x.feed(0, 9));
        leaves("publish", Checks.ARGUMENT, "9.0.0;1 *;2", x -> x.publish(0));
        leaves("publish", Checks.ARGUMENT, "9.0.0;1 *;2 *;3 *;4 *;5 *;6 *", x -> x.publish(0));
        leaves("publish", Checks.STATE, "1.0.0;3 *;4 *", x -> x.publish(0));
        leaves("want", Checks.ARGUMENT, "1,2,3,4,5", x -> x.want(0));
        leaves("want", Checks.ARGUMENT, "1,", x -> x.want(6));
        leaves("meets", Checks.ARGUMENT, "1,", x -> x.meets(0));
        leaves("best", Checks.ARGUMENT, "1,", x -> x.best(0));
        fullLeaves();
        solveLeaves();
        feedLeaves();
    }

    /** Nine versions, some yanked, wanted and pinned, a choice, and a file of an older choice. */
    private static VersionSolver filled() {
        VersionSolver x = Checks.registry("0 1.0.0;1 *", "0 2.0.0;1 1", "1 1.0.0-a", "1 1.0.0+b", "1 2.0.0;2 <2",
                "2 1.0.0", "2 2.0.0", "3 1.0.0;0 1", "5 0.0.1");
        Checks.want(x, 0, "*");
        x.solve();
        x.write();
        Checks.want(x, 3, "<2");
        Checks.want(x, 5, "^0.0.1");
        x.yank(6, true);
        x.yank(8, true);
        x.pin(8);
        x.pin(3);
        x.solve();
        x.lock();
        x.pin(4);
        x.drop(5);
        x.yank(3, true);
        return x;
    }

    /**
     * The call throws, and a twin object that only had its text used up answers as this one
     * from then on.
     */
    private static void leaves(String what, String thrown, String text, Deed deed) {
        VersionSolver x = filled();
        VersionSolver twin = filled();
        Checks.feed(x, text == null ? "~1.0" : text);
        Checks.feed(twin, "~1.0");
        if (text != null) {
            twin.meets(0);
        }
        Checks.due(what, thrown, () -> {
            deed.on(x);
            return "nothing thrown";
        });
        Checks.due(what + " leaves all as it was", everything(twin), () -> everything(x));
    }

    /** All that an object can be asked; the asking changes it. */
    private static String everything(VersionSolver x) {
        StringBuilder all = new StringBuilder();
        all.append(Checks.told(x)).append(" text ").append(Checks.answerOf(() -> x.meets(0)));
        all.append(" chosen ").append(Checks.choice(x)).append(" file ");
        for (int i = 0; i < 217; i++) {
            int at = i;
            all.append(' ').append(Checks.answerOf(() -> x.fileByte(at)));
        }
        for (int i = 0; i < x.told(0); i++) {
            int version = i;
            all.append("\nneeds");
            for (int k = 0; k < 6; k++) {
                all.append(' ').append(x.needs(version, k));
            }
            all.append(" compare ").append(x.compare(version, 0)).append(x.compare(0, version));
        }
        all.append("\nsolve ").append(Checks.answerOf(() -> Checks.solved(x)));
        for (int pack = 0; pack < 8; pack++) {
            int at = pack;
            all.append("\nbest ").append(Checks.answerOf(() -> Checks.best(x, at, "*")));
            all.append(" drop ").append(x.drop(pack)).append(" solve ").append(Checks.answerOf(() -> Checks.solved(x)));
        }
        for (int version = 0; version < x.told(0); version++) {
            all.append("\npin ").append(x.pin(version)).append(" yanked ").append(x.yank(version, false));
        }
        for (int pack = 0; pack < 8; pack++) {
            Checks.want(x, pack, ">=0.0.0-0");
            all.append(" solve ").append(Checks.answerOf(() -> Checks.solved(x)));
            x.drop(pack);
        }
        return all.append(" unlock ").append(x.unlock()).append(" told ").append(Checks.told(x)).toString();
    }

    private static void fullLeaves() {
        VersionSolver x = Checks.full();
        VersionSolver twin = Checks.full();
        Checks.due("publish", Checks.UNSUPPORTED, () -> Checks.publish(x, 0, "9.0.0;1 *"));
        Checks.due("publish leaves all as it was", Checks.told(twin), () -> Checks.told(x));
        Checks.due("the best too", 4, () -> Checks.best(x, 0, "*"));
        Checks.want(x, 0, "*");
        Checks.due("the solution too", "4 - - - - - - -", () -> Checks.solved(x));
        Checks.due("the last one's requirements too", VersionSolver.NONE, () -> x.needs(39, 0));
    }

    private static void solveLeaves() {
        VersionSolver x = filled();
        VersionSolver twin = filled();
        Checks.want(x, 7, "*");
        Checks.due("solve", Checks.STATE, x::solve);
        Checks.due("solve leaves the root", 3, () -> x.told(2));
        x.drop(7);
        Checks.due("solve leaves all as it was", everything(twin), () -> everything(x));
    }

    /** feed() does not read the text, so a feed() that throws leaves even that. */
    private static void feedLeaves() {
        VersionSolver x = filled();
        VersionSolver twin = filled();
        Checks.feed(x, "~1.0" + " ".repeat(156));
        Checks.feed(twin, "~1.0" + " ".repeat(156));
        Checks.due("feed", Checks.STATE, () -> x.feed('x', 1));
        Checks.due("feed leaves all as it was", everything(twin), () -> everything(x));
    }
}
