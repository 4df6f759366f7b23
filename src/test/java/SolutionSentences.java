/** What the document says of packages, versions, the root, the lock, and of which solution is before which. */
final class SolutionSentences {
    private SolutionSentences() {
    }

    static void all(Sentences s) {
        String terms = "Terms";
        s.test(terms, "PACKAGES are 0 .. 7.", SolutionSentences::packages);
        s.test(terms, "Versions that were published are numbered 0, 1, .. , 40 at most in all.", SolutionSentences::versions);
        s.test(terms, "Each may be YANKED.", SolutionSentences::yanked);
        s.test(terms, "THE ROOT has for each package one requirement at most.", SolutionSentences::root);
        s.test(terms, "THE LOCK pins for each package one version at most.", SolutionSentences::lock);
        s.test(terms, "A SOLUTION gives some packages one of their versions each,", SolutionSentences::somePackages);
        s.test(terms, "none that is yanked, but pinned ones:", SolutionSentences::noneYanked);
        s.test(terms, "each package that the root has a requirement on, or a version that is given, has a version,",
                SolutionSentences::hasVersion);
        s.test(terms, "and it meets all those requirements;", SolutionSentences::meetsAll);
        s.test(terms, "and each package that has one is REACHED: the root has a requirement on it,"
                + " or a version that is given to a package that is reached.", SolutionSentences::reached);
        s.test(terms, "Of two solutions that one is BEFORE, which, at the first package where they differ, has none;",
                SolutionSentences::noneFirst);
        s.test(terms, "else the pinned version;", SolutionSentences::pinnedNext);
        s.test(terms, "else the version of higher precedence.", SolutionSentences::thenHigher);
    }

    private static void packages() {
        for (int pack = 0; pack < 8; pack++) {
            int at = pack;
            VersionSolver x = new VersionSolver();
            Checks.due("publish " + pack, 0, () -> Checks.publish(x, at, "1.0.0;" + at + " *"));
            Checks.due("want " + pack, "wanted", () -> Checks.want(x, at, "*"));
            Checks.due("best " + pack, 0, () -> Checks.best(x, at, "*"));
            Checks.due("solve", 1, x::solve);
            Checks.due("chosen " + pack, 0, () -> x.chosen(at));
            Checks.due("needs", pack, () -> x.needs(0, 0));
            Checks.due("written", pack + " 1.0.0\n", () -> Checks.fileOf(x));
            Checks.due("drop " + pack, true, () -> x.drop(at));
        }
        VersionSolver x = Checks.registry("0 1.0.0");
        for (int none : new int[] {-1, 8}) {
            Checks.due("publish " + none, Checks.INDEX, () -> Checks.publish(x, none, "1.0.0"));
            Checks.due("want " + none, Checks.INDEX, () -> Checks.want(x, none, "*"));
            Checks.due("drop " + none, Checks.INDEX, () -> x.drop(none));
            Checks.due("chosen " + none, Checks.INDEX, () -> x.chosen(none));
            Checks.due("best " + none, Checks.INDEX, () -> Checks.best(x, none, "*"));
        }
    }

    private static void versions() {
        VersionSolver x = new VersionSolver();
        for (int i = 0; i < 40; i++) {
            int number = i;
            noVersion(x, number);
            Checks.due("one more in package 7", number, () -> Checks.publish(x, 7, "1.0." + (99 - number)));
            Checks.due("it is there", 0, () -> x.compare(number, number));
            Checks.due("a refused one takes no number", Checks.STATE, () -> Checks.publish(x, 7, "1.0." + (99 - number)));
            Checks.due("nor does one that is none", Checks.ARGUMENT, () -> Checks.publish(x, 7, "1.0"));
            Checks.due("how many", number + 1, () -> x.told(0));
        }
        noVersion(x, 40);
        noVersion(x, -1);
        Checks.due("a 41st", Checks.UNSUPPORTED, () -> Checks.publish(x, 0, "1.0.0"));
        noVersion(x, 40);
        VersionSolver spread = Checks.full();
        Checks.due("40 in all, of whatever packages", Checks.UNSUPPORTED, () -> Checks.publish(spread, 7, "9.0.0"));
        Checks.due("how many", 40, () -> spread.told(0));
    }

    private static void noVersion(VersionSolver x, int number) {
        Checks.due("yank " + number, Checks.INDEX, () -> x.yank(number, true));
        Checks.due("pin " + number, Checks.INDEX, () -> x.pin(number));
        Checks.due("meets " + number, Checks.INDEX, () -> Checks.meets(x, number, "*"));
        Checks.due("compare " + number, Checks.INDEX, () -> x.compare(number, number));
        Checks.due("needs " + number, Checks.INDEX, () -> x.needs(number, 0));
    }

    private static void yanked() {
        VersionSolver x = Checks.full();
        for (int i = 0; i < 40; i++) {
            int number = i;
            Checks.due("yank " + number, false, () -> x.yank(number, true));
            Checks.due("how many", number + 1, () -> x.told(1));
            Checks.due("it is", true, () -> x.yank(number, true));
        }
        Checks.due("how many versions", 40, () -> x.told(0));
    }

    private static void root() {
        VersionSolver x = Checks.full();
        for (int pack = 0; pack < 8; pack++) {
            int at = pack;
            Checks.want(x, pack, "9");
            Checks.want(x, pack, "<" + (1 + pack % 4));
            Checks.due("one for each package", pack + 1, () -> x.told(2));
            Checks.due("the later one alone", pack + 1, x::solve);
            Checks.due("chosen", 5 * pack + pack % 4, () -> x.chosen(at));
        }
        Checks.due("dropped", true, () -> x.drop(0));
        Checks.due("no other one stands behind it", false, () -> x.drop(0));
        Checks.due("solve", 7, x::solve);
    }

    private static void lock() {
        VersionSolver x = Checks.full();
        for (int i = 0; i < 40; i++) {
            int number = i;
            Checks.due("pin " + i, i % 5 == 0 ? VersionSolver.NONE : i - 1, () -> x.pin(number));
            Checks.due("one for each package", i / 5 + 1, () -> x.told(3));
        }
        Checks.due("eight in all", 8, x::unlock);
        Checks.due("none stands behind them", 0, () -> x.told(3));
    }

    private static void somePackages() {
        VersionSolver x = Checks.full();
        Checks.due("no package", 0, x::solve);
        Checks.due("chosen", "- - - - - - - -", () -> Checks.choice(x));
        for (int pack = 0; pack < 8; pack++) {
            Checks.want(x, pack, "*");
            Checks.due("so many packages", pack + 1, x::solve);
        }
        Checks.due("one of their versions each", "4 9 14 19 24 29 34 39", () -> Checks.choice(x));
        VersionSolver none = new VersionSolver();
        Checks.want(none, 7, "*");
        Checks.due("a package without versions", Checks.STATE, none::solve);
        Checks.publish(none, 6, "1.0.0");
        Checks.due("another one's version is not its own", Checks.STATE, none::solve);
    }

    private static void noneYanked() {
        VersionSolver x = Checks.registry("0 1.0.0", "0 2.0.0");
        Checks.want(x, 0, "*");
        x.yank(1, true);
        Checks.due("not the yanked one", "0 - - - - - - -", () -> Checks.solved(x));
        x.yank(0, true);
        Checks.due("all are yanked", Checks.STATE, x::solve);
        x.pin(1);
        Checks.due("the pinned one", "1 - - - - - - -", () -> Checks.solved(x));
        x.pin(0);
        Checks.due("the one that is pinned now", "0 - - - - - - -", () -> Checks.solved(x));
        Checks.want(x, 0, "2");
        Checks.due("a pin does not help another one", Checks.STATE, x::solve);
        x.pin(1);
        Checks.due("nor harm it", "1 - - - - - - -", () -> Checks.solved(x));
        x.unlock();
        Checks.due("no longer pinned", Checks.STATE, x::solve);
        x.yank(1, false);
        Checks.due("no longer yanked", "1 - - - - - - -", () -> Checks.solved(x));
        VersionSolver y = Checks.registry("0 1.0.0;1 *", "1 1.0.0", "2 1.0.0");
        Checks.want(y, 0, "*");
        y.yank(1, true);
        Checks.due("needed and yanked", Checks.STATE, y::solve);
        y.pin(2);
        Checks.due("a pin of another package", Checks.STATE, y::solve);
        y.pin(1);
        Checks.due("needed, yanked and pinned", "0 1 - - - - - -", () -> Checks.solved(y));
    }

    private static void hasVersion() {
        VersionSolver x = Checks.registry("0 1.0.0;1 *", "1 1.0.0;2 *", "2 1.0.0;3 *", "3 1.0.0;4 *", "4 1.0.0;5 *",
                "5 1.0.0;6 *", "6 1.0.0;7 *");
        Checks.want(x, 0, "*");
        Checks.due("the last of a chain has none", Checks.STATE, x::solve);
        Checks.publish(x, 7, "1.0.0");
        Checks.due("all of a chain", "0 1 2 3 4 5 6 7", () -> Checks.solved(x));
        VersionSolver y = Checks.registry("4 1.0.0;0 *;2 *;5 *;6 *;7 *", "0 1.0.0", "2 1.0.0", "5 1.0.0", "6 1.0.0");
        Checks.want(y, 4, "*");
        Checks.due("the fifth has none", Checks.STATE, y::solve);
        Checks.publish(y, 7, "1.0.0");
        Checks.due("five of one version", "1 - 2 - 0 3 4 5", () -> Checks.solved(y));
        Checks.want(y, 1, "*");
        Checks.due("what the root has a requirement on", Checks.STATE, y::solve);
    }

    private static void meetsAll() {
        VersionSolver x = Checks.registry("7 1.0.0", "7 2.0.0", "7 3.0.0", "7 4.0.0", "0 1.0.0;7 <4", "1 1.0.0;7 >1");
        Checks.want(x, 7, "*");
        Checks.due("the root's alone", "- - - - - - - 3", () -> Checks.solved(x));
        Checks.want(x, 0, "*");
        Checks.due("one more", "4 - - - - - - 2", () -> Checks.solved(x));
        Checks.want(x, 7, "<3");
        Checks.due("the root's stays", "4 - - - - - - 1", () -> Checks.solved(x));
        Checks.want(x, 1, "*");
        Checks.due("three", "4 5 - - - - - 1", () -> Checks.solved(x));
        Checks.publish(x, 2, "1.0.0;7 <2");
        Checks.want(x, 2, "*");
        Checks.due("a fourth that excludes the third", Checks.STATE, x::solve);
        x.drop(1);
        Checks.due("without the third", "4 - 6 - - - - 0", () -> Checks.solved(x));
        VersionSolver later = Checks.registry("0 1.0.0;7 1", "7 2.0.0", "7 0.9.0");
        Checks.want(later, 0, "*");
        Checks.due("also of versions that were published later", Checks.STATE, later::solve);
        Checks.publish(later, 7, "1.0.0");
        Checks.due("of which one meets it", "0 - - - - - - 3", () -> Checks.solved(later));
        VersionSolver own = Checks.registry("0 1.0.0;0 2", "0 2.0.0;0 1", "0 0.1.0;0 0.1");
        Checks.want(own, 0, "*");
        Checks.due("its own requirement, too", "2 - - - - - - -", () -> Checks.solved(own));
        VersionSolver words = Checks.registry("0 1.0.0-a", "1 1.0.0;0 1.0.0-0", "1 2.0.0;0 *");
        Checks.want(words, 1, "*");
        Checks.due("with words it meets only where they are named", "0 1 - - - - - -", () -> Checks.solved(words));
        Checks.want(words, 0, "*");
        Checks.due("by each requirement for itself", Checks.STATE, words::solve);
    }

    private static void reached() {
        VersionSolver x = Checks.registry("0 1.0.0;1 *", "1 1.0.0;0 *", "2 1.0.0;2 *", "3 1.0.0;2 *", "3 2.0.0");
        Checks.due("nothing is wanted", "- - - - - - - -", () -> Checks.solved(x));
        x.pin(0);
        x.pin(1);
        x.pin(2);
        Checks.due("a pin reaches nothing, nor do rings", "- - - - - - - -", () -> Checks.solved(x));
        Checks.want(x, 3, "*");
        Checks.due("a version that is not given reaches nothing", "- - - 4 - - - -", () -> Checks.solved(x));
        Checks.want(x, 3, "1");
        Checks.due("one that is given does", "- - 2 3 - - - -", () -> Checks.solved(x));
        Checks.want(x, 0, "*");
        Checks.due("a ring of which one is wanted", "0 1 2 3 - - - -", () -> Checks.solved(x));
    }

    private static void noneFirst() {
        VersionSolver x = Checks.registry("7 1.0.0", "7 2.0.0;0 *", "0 1.0.0", "7 1.5.0;6 *", "6 1.0.0");
        Checks.want(x, 7, "*");
        Checks.due("none of 0 and 6 before a higher one of 7", "- - - - - - - 0", () -> Checks.solved(x));
        x.pin(1);
        x.pin(2);
        Checks.due("and before pinned ones", "- - - - - - - 0", () -> Checks.solved(x));
        x.yank(0, true);
        Checks.due("none of 0 before none of 6", "- - - - - - 4 3", () -> Checks.solved(x));
        VersionSolver y = Checks.registry("0 2.0.0;1 *", "0 1.0.0", "1 1.0.0");
        Checks.want(y, 0, "*");
        Checks.due("but the first package where they differ decides", "0 2 - - - - - -", () -> Checks.solved(y));
    }

    private static void pinnedNext() {
        VersionSolver x = Checks.registry("0 1.0.0", "0 2.0.0", "0 3.0.0", "1 1.0.0;0 *", "1 2.0.0;0 >1");
        Checks.want(x, 1, "*");
        Checks.want(x, 0, "*");
        x.pin(0);
        Checks.due("the lowest one, pinned, before the highest", "0 3 - - - - - -", () -> Checks.solved(x));
        x.pin(4);
        Checks.due("the earlier package's pin counts first", "0 3 - - - - - -", () -> Checks.solved(x));
        x.pin(1);
        Checks.due("both pins can be", "1 4 - - - - - -", () -> Checks.solved(x));
        Checks.want(x, 0, ">2");
        Checks.due("a pinned one that can't be", "2 4 - - - - - -", () -> Checks.solved(x));
        x.unlock();
        Checks.want(x, 0, "*");
        Checks.due("no pins", "2 4 - - - - - -", () -> Checks.solved(x));
    }

    private static void thenHigher() {
        VersionSolver x = Checks.registry("3 1.0.0", "3 1.0.10", "3 1.0.9", "3 1.0.10-a", "3 0.9.0");
        Checks.want(x, 3, "*,>=0.0.0,<=1.0.10,>1.0.10-0");
        Checks.due("by precedence, not by number or bytes", "- - - 1 - - - -", () -> Checks.solved(x));
        x.yank(1, true);
        Checks.due("the next", "- - - 3 - - - -", () -> Checks.solved(x));
        Checks.want(x, 3, "*");
        Checks.due("without words", "- - - 2 - - - -", () -> Checks.solved(x));
        VersionSolver y = Checks.registry("0 1.0.0;1 *", "0 2.0.0;1 1", "1 1.0.0", "1 2.0.0", "2 1.0.0;0 *", "2 2.0.0;0 1");
        Checks.want(y, 2, "*");
        Checks.due("of the first package where they differ", "1 2 4 - - - - -", () -> Checks.solved(y));
        VersionSolver z = Checks.registry("0 1.0.0", "0 999999999.0.0", "0 0.0.0");
        Checks.want(z, 0, "*");
        Checks.due("the highest that can be", "1 - - - - - - -", () -> Checks.solved(z));
    }
}
