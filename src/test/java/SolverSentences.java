/** What promises 5 to 11, 17 and 18 say: the root, what is chosen, the lock, and the file. */
final class SolverSentences {
    private SolverSentences() {
    }

    static void all(Sentences s) {
        String want = "Promise 5";
        s.test(want, "The text is a REQUIREMENT: the root's one on a package from now on.", SolverSentences::want);
        s.test(want, "IndexOutOfBounds: there is no such package.", () -> RegistrySentences.noPacks("want",
                (x, none) -> Checks.want(x, none, "*"), (x, none) -> Checks.want(x, none, "")));
        s.test(want, "IllegalArgument: it is none.", SolverSentences::wantNone);
        String drop = "Promise 6";
        s.test(drop, "The root has no requirement on a package any more: whether it had.", SolverSentences::drop);
        s.test(drop, "IndexOutOfBounds: there is no such package.",
                () -> RegistrySentences.noPacks("drop", VersionSolver::drop));
        String solve = "Promise 7";
        s.test(solve, "The solution that is before all others is CHOSEN: how many packages have versions.",
                SolverSentences::solve);
        s.test(solve, "IllegalState: there is no solution.", SolverSentences::noSolution);
        String chosen = "Promise 8";
        s.test(chosen, "The version of a package in what was chosen latest (whatever was published, yanked, wanted or"
                + " dropped since; so for lock() and write());", SolverSentences::chosenLatest);
        s.test(chosen, "NONE when it has none, or nothing was chosen.", SolverSentences::chosenNone);
        s.test(chosen, "IndexOutOfBounds: there is no such package.",
                () -> RegistrySentences.noPacks("chosen", VersionSolver::chosen));
        String lock = "Promise 9";
        s.test(lock, "THE LOCK pins what was chosen latest", SolverSentences::lock);
        s.test(lock, "(nothing, if nothing was),", SolverSentences::lockNothing);
        s.test(lock, "and nothing else: how many.", SolverSentences::lockNothingElse);
        String pin = "Promise 10";
        s.test(pin, "THE LOCK pins a version (and no other one of its package):", SolverSentences::pin);
        s.test(pin, "which one it pinned of that package, or NONE.", SolverSentences::pinnedBefore);
        s.test(pin, "IndexOutOfBounds: there is no such version.",
                () -> RegistrySentences.noVersions("pin", VersionSolver::pin));
        s.test("Promise 11", "THE LOCK pins nothing: how many it pinned.", SolverSentences::unlock);
        String write = "Promise 17";
        s.test(write, "THE FILE is written of what was chosen latest:", SolverSentences::writtenLatest);
        s.test(write, "for each package that has a version, from 0 on, its digit, a blank, the version as it was published,"
                + " and byte 10:", SolverSentences::lines);
        s.test(write, "how many bytes.", SolverSentences::howManyBytes);
        String fileByte = "Promise 18";
        s.test(fileByte, "Byte i of the file.", SolverSentences::bytes);
        s.test(fileByte, "IndexOutOfBounds: there is none.", SolverSentences::noBytes);
    }

    private static void want() {
        VersionSolver x = Checks.registry("0 1.0.0", "0 2.0.0", "7 1.0.0");
        Checks.due("before its package has versions that meet it", "wanted", () -> Checks.want(x, 0, "3"));
        Checks.due("it can't be met", Checks.STATE, x::solve);
        Checks.want(x, 0, "1");
        Checks.due("the new one in its place", "0 - - - - - - -", () -> Checks.solved(x));
        Checks.want(x, 0, "*");
        Checks.due("a wider one", "1 - - - - - - -", () -> Checks.solved(x));
        Checks.want(x, 7, "1,1,1,1");
        Checks.due("another package's beside it", "1 - - - - - - 2", () -> Checks.solved(x));
        Checks.publish(x, 0, "3.0.0");
        Checks.due("it holds for what is published later", "3 - - - - - - 2", () -> Checks.solved(x));
    }

    private static void wantNone() {
        RegistrySentences.noRequirements((x, text) -> Checks.want(x, 0, text));
        VersionSolver x = Checks.registry("0 1.0.0", "0 2.0.0");
        Checks.want(x, 0, "1");
        Checks.due("no requirement", Checks.ARGUMENT, () -> Checks.want(x, 0, "2,"));
        Checks.due("the old one stays", "0 - - - - - - -", () -> Checks.solved(x));
    }

    private static void drop() {
        VersionSolver x = Checks.full();
        for (int pack = 0; pack < 8; pack++) {
            int at = pack;
            Checks.due("it had none", false, () -> x.drop(at));
            Checks.want(x, pack, "*");
            Checks.due("it had one", true, () -> x.drop(at));
            Checks.due("it had none any more", false, () -> x.drop(at));
            Checks.want(x, pack, "9");
        }
        Checks.due("none can be met", Checks.STATE, x::solve);
        for (int pack = 0; pack < 8; pack++) {
            x.drop(pack);
        }
        Checks.due("all are dropped", 0, x::solve);
    }

    private static void solve() {
        VersionSolver x = new VersionSolver();
        Checks.due("of nothing", 0, x::solve);
        for (int i = 0; i < 40; i++) {
            int next = i / 5 + 1;
            Checks.publish(x, i / 5, i % 5 + ".0.0" + (next < 8 ? ";" + next + " <=" + i % 5 : ""));
        }
        Checks.due("nothing is wanted", 0, x::solve);
        for (int pack = 7; pack >= 0; pack--) {
            Checks.want(x, pack, "*");
            Checks.due("so many", 8 - pack, x::solve);
            x.drop(pack);
        }
        Checks.due("what is wanted last", 0, x::solve);
        Checks.want(x, 0, "*");
        Checks.due("all eight", "4 9 14 19 24 29 34 39", () -> Checks.solved(x));
        Checks.want(x, 7, "<3");
        Checks.due("the first of those that can be", "4 9 14 19 24 29 34 37", () -> Checks.solved(x));
        Checks.due("the same again", 8, x::solve);
    }

    private static void noSolution() {
        VersionSolver empty = new VersionSolver();
        Checks.want(empty, 0, "*");
        Checks.due("no versions", Checks.STATE, empty::solve);
        VersionSolver x = Checks.registry("0 1.0.0;1 1;2 1", "1 1.0.0;3 1", "2 1.0.0;3 2", "3 1.0.0", "3 2.0.0");
        Checks.want(x, 1, "*");
        Checks.due("one", 2, x::solve);
        Checks.want(x, 0, "*");
        Checks.due("none", Checks.STATE, x::solve);
        Checks.due("none again", Checks.STATE, x::solve);
        Checks.due("what was chosen stays", "- 1 - 3 - - - -", () -> Checks.choice(x));
        Checks.publish(x, 2, "1.1.0");
        Checks.due("one more version makes one", "0 1 5 3 - - - -", () -> Checks.solved(x));
        x.yank(5, true);
        Checks.due("without it", Checks.STATE, x::solve);
        Checks.due("what was chosen stays", "0 1 5 3 - - - -", () -> Checks.choice(x));
        VersionSolver own = Checks.registry("0 1.0.0;0 2");
        Checks.want(own, 0, "*");
        Checks.due("one that does not meet its own requirement", Checks.STATE, own::solve);
    }

    private static void chosenLatest() {
        VersionSolver x = Checks.registry("0 1.0.0;7 *", "7 1.0.0");
        Checks.want(x, 0, "*");
        x.solve();
        String[] since = {"published", "yanked", "wanted", "not solved", "dropped", "pinned", "unlocked"};
        for (String what : since) {
            change(x, what);
            Checks.due(what + " since, chosen", "0 - - - - - - 1", () -> Checks.choice(x));
            Checks.due(what + " since, written", "0 1.0.0\n7 1.0.0\n", () -> Checks.fileOf(x));
            Checks.due(what + " since, locked", 2, x::lock);
            Checks.due("of 0", 0, () -> x.pin(0));
            Checks.due("of 7", 1, () -> x.pin(1));
            x.unlock();
        }
        x.unlock();
        Checks.want(x, 0, "2");
        Checks.due("solved again", "2 - - - - - - -", () -> Checks.solved(x));
        x.drop(0);
        x.solve();
        Checks.due("solved to nothing", "- - - - - - - -", () -> Checks.choice(x));
    }

    private static void change(VersionSolver x, String what) {
        switch (what) {
            case "published" -> Checks.publish(x, 0, "2.0.0");
            case "yanked" -> x.yank(0, true);
            case "wanted" -> Checks.want(x, 5, "*");
            case "not solved" -> Checks.answerOf(x::solve);
            case "dropped" -> x.drop(5);
            case "pinned" -> x.pin(2);
            default -> x.unlock();
        }
    }

    private static void chosenNone() {
        VersionSolver x = Checks.full();
        Checks.due("nothing was chosen", "- - - - - - - -", () -> Checks.choice(x));
        Checks.want(x, 0, "9");
        Checks.answerOf(x::solve);
        Checks.due("nothing could be chosen", "- - - - - - - -", () -> Checks.choice(x));
        x.drop(0);
        x.solve();
        Checks.due("no package was chosen", "- - - - - - - -", () -> Checks.choice(x));
        Checks.want(x, 7, "0");
        x.solve();
        Checks.due("one was", "- - - - - - - 35", () -> Checks.choice(x));
        x.drop(7);
        Checks.want(x, 0, "0");
        x.solve();
        Checks.due("another one", "0 - - - - - - -", () -> Checks.choice(x));
    }

    private static void lock() {
        VersionSolver x = Checks.full();
        for (int pack = 0; pack < 8; pack++) {
            Checks.want(x, pack, "<" + (1 + pack % 5));
        }
        x.solve();
        Checks.due("lock", 8, x::lock);
        for (int pack = 0; pack < 8; pack++) {
            int at = 5 * pack;
            Checks.due("pinned of " + pack, at + pack % 5, () -> x.pin(at));
            Checks.want(x, pack, "*");
        }
        x.lock();
        Checks.due("the lock holds though all can be", "0 6 12 18 24 25 31 37", () -> Checks.solved(x));
    }

    private static void lockNothing() {
        VersionSolver x = Checks.registry("0 1.0.0", "7 1.0.0");
        Checks.due("in a new object", 0, x::lock);
        x.pin(0);
        x.pin(1);
        Checks.due("in place of what was pinned", 0, x::lock);
        Checks.due("nothing is pinned", 0, () -> x.told(3));
        Checks.want(x, 5, "*");
        Checks.answerOf(x::solve);
        x.pin(0);
        Checks.due("when there was no solution", 0, x::lock);
        Checks.due("nothing is pinned", VersionSolver.NONE, () -> x.pin(0));
    }

    private static void lockNothingElse() {
        VersionSolver x = Checks.registry("0 1.0.0", "0 2.0.0", "7 1.0.0");
        Checks.want(x, 0, "*");
        x.solve();
        x.pin(0);
        x.pin(2);
        Checks.due("one was chosen", 1, x::lock);
        Checks.due("so many", 1, () -> x.told(3));
        Checks.due("what was pinned of another package", VersionSolver.NONE, () -> x.pin(2));
        Checks.due("what was pinned of its package", 1, () -> x.pin(0));
        x.drop(0);
        x.solve();
        Checks.due("no package was chosen", 0, x::lock);
        Checks.due("so many", 0, () -> x.told(3));
    }

    private static void pin() {
        VersionSolver x = Checks.full();
        for (int pack = 0; pack < 8; pack++) {
            Checks.want(x, pack, "*");
            x.pin(5 * pack + 1);
            x.pin(5 * pack + 2);
            x.pin(5 * pack);
        }
        Checks.due("the last one of each", "0 5 10 15 20 25 30 35", () -> Checks.solved(x));
        Checks.due("eight", 8, () -> x.told(3));
        x.yank(1, true);
        x.pin(1);
        Checks.due("a yanked one", "1 5 10 15 20 25 30 35", () -> Checks.solved(x));
        x.yank(0, true);
        x.pin(2);
        Checks.due("the one before no longer", "2 5 10 15 20 25 30 35", () -> Checks.solved(x));
        Checks.want(x, 0, "<2");
        Checks.due("so that it is yanked again", Checks.STATE, x::solve);
    }

    private static void pinnedBefore() {
        VersionSolver x = Checks.registry("0 1.0.0", "0 2.0.0", "7 1.0.0");
        Checks.due("none", VersionSolver.NONE, () -> x.pin(0));
        Checks.due("the same", 0, () -> x.pin(0));
        Checks.due("of another package none", VersionSolver.NONE, () -> x.pin(2));
        Checks.due("another one", 0, () -> x.pin(1));
        Checks.due("which was pinned", 1, () -> x.pin(0));
        x.unlock();
        Checks.due("none behind unlock()", VersionSolver.NONE, () -> x.pin(0));
        Checks.want(x, 0, "2");
        x.solve();
        x.lock();
        Checks.due("what lock() pinned", 1, () -> x.pin(0));
        VersionSolver full = Checks.full();
        Checks.due("the last of 40", VersionSolver.NONE, () -> full.pin(39));
        Checks.due("and again", 39, () -> full.pin(35));
    }

    private static void unlock() {
        VersionSolver x = Checks.full();
        Checks.due("nothing was pinned", 0, x::unlock);
        for (int i = 0; i < 40; i++) {
            x.pin(i);
        }
        Checks.due("eight were pinned", 8, x::unlock);
        Checks.due("nothing is pinned", 0, x::unlock);
        Checks.due("told", 0, () -> x.told(3));
        Checks.want(x, 0, "*");
        x.pin(0);
        x.solve();
        Checks.due("one was pinned", 1, x::unlock);
        Checks.due("what was chosen stays", 0, () -> x.chosen(0));
        Checks.due("the pin no longer counts", "4 - - - - - - -", () -> Checks.solved(x));
    }

    private static void writtenLatest() {
        VersionSolver x = Checks.registry("0 1.0.0", "7 1.0.0");
        Checks.due("nothing was chosen", 0, x::write);
        Checks.want(x, 0, "*");
        x.solve();
        Checks.due("not before it is written", Checks.INDEX, () -> x.fileByte(0));
        Checks.due("one package", "0 1.0.0\n", () -> Checks.fileOf(x));
        Checks.want(x, 7, "*");
        x.solve();
        Checks.due("not before it is written", Checks.INDEX, () -> x.fileByte(8));
        Checks.due("two packages", "0 1.0.0\n7 1.0.0\n", () -> Checks.fileOf(x));
        Checks.due("not twice", "0 1.0.0\n7 1.0.0\n", () -> Checks.fileOf(x));
        Checks.want(x, 3, "*");
        Checks.answerOf(x::solve);
        Checks.due("when there was no solution", "0 1.0.0\n7 1.0.0\n", () -> Checks.fileOf(x));
        x.drop(0);
        x.drop(3);
        x.solve();
        Checks.due("one of them", "7 1.0.0\n", () -> Checks.fileOf(x));
        x.drop(7);
        x.solve();
        Checks.due("no package", "", () -> Checks.fileOf(x));
    }

    private static void lines() {
        String[] versions = {"0.0.0", "1.0.0+a.00", "1.0.0-a.b+C.d", "999999999.999999999.9999", "1.0.0--", "1.0.0-0+0",
            "1.0.0-aaaaaaaaaaaaaaaaaa", "1.0.0+zzzzzzzzzzzzzzzzzz"};
        VersionSolver x = new VersionSolver();
        StringBuilder due = new StringBuilder();
        for (int pack = 7; pack >= 0; pack--) {
            Checks.publish(x, pack, versions[pack] + ";" + pack + "  >=0.0.0,*,*,>=" + versions[pack].replaceAll("\\+.*", ""));
            Checks.want(x, pack, ">=" + versions[pack].replaceAll("\\+.*", ""));
        }
        for (int pack = 0; pack < 8; pack++) {
            due.append(pack).append(' ').append(versions[pack]).append((char) 10);
        }
        Checks.due("all eight", 8, x::solve);
        Checks.due("from 0 on", due, () -> Checks.fileOf(x));
    }

    private static void howManyBytes() {
        VersionSolver x = new VersionSolver();
        Checks.due("none", 0, x::write);
        for (int pack = 0; pack < 8; pack++) {
            Checks.publish(x, pack, "1.0.0-aaaaaaaaaaaaaaaaaa");
            Checks.want(x, pack, "1.0.0-0");
            x.solve();
            Checks.due("27 a line at most", 27 * (pack + 1), x::write);
        }
        VersionSolver least = Checks.registry("0 0.0.0");
        Checks.want(least, 0, "*");
        least.solve();
        Checks.due("8 a line at least", 8, least::write);
    }

    private static void bytes() {
        VersionSolver x = Checks.registry("7 1.0.0-z+Z");
        Checks.want(x, 7, "1.0.0-0");
        x.solve();
        x.write();
        int[] due = {'7', ' ', '1', '.', '0', '.', '0', '-', 'z', '+', 'Z', 10};
        for (int i = 0; i < due.length; i++) {
            int at = i;
            Checks.due("byte " + i, due[i], () -> x.fileByte(at));
        }
        x.drop(7);
        x.solve();
        Checks.due("until it is written again", 10, () -> x.fileByte(11));
    }

    private static void noBytes() {
        VersionSolver x = new VersionSolver();
        int[] none = {-1, 216, 217, 256, Integer.MIN_VALUE, Integer.MAX_VALUE};
        for (int i : none) {
            Checks.due("of no file, byte " + i, Checks.INDEX, () -> x.fileByte(i));
        }
        Checks.due("of no file, byte 0", Checks.INDEX, () -> x.fileByte(0));
        x.write();
        Checks.due("of an empty file, byte 0", Checks.INDEX, () -> x.fileByte(0));
        for (int pack = 0; pack < 8; pack++) {
            Checks.publish(x, pack, "1.0.0-aaaaaaaaaaaaaaaaaa");
            Checks.want(x, pack, "1.0.0-0");
        }
        x.solve();
        x.write();
        Checks.due("the last of the longest", 10, () -> x.fileByte(215));
        for (int i : none) {
            Checks.due("of the longest file, byte " + i, Checks.INDEX, () -> x.fileByte(i));
        }
        for (int pack = 1; pack < 8; pack++) {
            x.drop(pack);
        }
        x.solve();
        x.write();
        Checks.due("the last of a shorter one", 10, () -> x.fileByte(26));
        Checks.due("behind it", Checks.INDEX, () -> x.fileByte(27));
        Checks.due("below it", Checks.INDEX, () -> x.fileByte(-1));
    }
}
