/** Promises 5, 6, 7 and 8: the root, the first solution, and what was chosen. */
public final class SolveTest {
    public static void main(String[] args) {
        root();
        higherFirst();
        noneComesFirst();
        reached();
        itself();
        yankedOnes();
        throwsAndKeeps();
        chosenStays();
        pinnedFirst();
        wide();
        notAllThree();
        noneFirstOfMany();
        triesAll(0);
        triesAll(31);
        Checks.end("SolveTest");
    }

    private static void root() {
        VersionSolver x = Checks.registry("0 1.0.0", "0 2.0.0", "3 1.0.0");
        Checks.due("nothing wanted", "- - - - - - - -", () -> Checks.solved(x));
        Checks.due("drop of nothing", false, () -> x.drop(0));
        Checks.want(x, 0, "*");
        Checks.due("the highest", "1 - - - - - - -", () -> Checks.solved(x));
        Checks.want(x, 0, "1");
        Checks.due("one requirement on a package", 1, () -> x.told(2));
        Checks.due("the later one counts", "0 - - - - - - -", () -> Checks.solved(x));
        Checks.due("an unsound one", Checks.ARGUMENT, () -> Checks.want(x, 0, "^"));
        Checks.due("changes nothing", "0 - - - - - - -", () -> Checks.solved(x));
        Checks.want(x, 3, "*");
        Checks.due("two packages", "0 - - 2 - - - -", () -> Checks.solved(x));
        Checks.due("how many", 2, x::solve);
        Checks.due("dropped", true, () -> x.drop(0));
        Checks.due("again", false, () -> x.drop(0));
        Checks.due("one package", "- - - 2 - - - -", () -> Checks.solved(x));
        Checks.want(x, 6, "*");
        Checks.due("of a package without versions", Checks.STATE, x::solve);
        for (int none : new int[] {-1, 8, Integer.MIN_VALUE, Integer.MAX_VALUE}) {
            Checks.due("want(" + none + ")", Checks.INDEX, () -> Checks.want(x, none, "*"));
            Checks.due("and rubbish", Checks.INDEX, () -> Checks.want(x, none, "?"));
            Checks.due("drop(" + none + ")", Checks.INDEX, () -> x.drop(none));
            Checks.due("chosen(" + none + ")", Checks.INDEX, () -> x.chosen(none));
        }
        Checks.due("want of no text", Checks.ARGUMENT, () -> {
            x.want(0);
            return null;
        });
    }

    private static void higherFirst() {
        VersionSolver x = Checks.registry("0 1.0.0;1 *", "0 2.0.0;1 1", "1 1.0.0", "1 2.0.0", "1 1.5.0");
        Checks.want(x, 0, "*");
        Checks.due("the highest of package 0, then of 1", "1 4 - - - - - -", () -> Checks.solved(x));
        Checks.want(x, 1, "2");
        Checks.due("both requirements hold", "0 3 - - - - - -", () -> Checks.solved(x));
        VersionSolver y = Checks.registry("0 1.0.0", "0 2.0.0", "1 1.0.0;0 *", "1 2.0.0;0 1");
        Checks.want(y, 1, "*");
        Checks.due("package 0 decides before 1", "1 2 - - - - - -", () -> Checks.solved(y));
    }

    private static void noneComesFirst() {
        VersionSolver x = Checks.registry("1 1.0.0", "1 2.0.0;0 *", "0 1.0.0");
        Checks.want(x, 1, "*");
        Checks.due("package 0 better has none", "- 0 - - - - - -", () -> Checks.solved(x));
        x.pin(2);
        Checks.due("also when a version of it is pinned", "- 0 - - - - - -", () -> Checks.solved(x));
        Checks.want(x, 1, "2");
        Checks.due("unless it must", "2 1 - - - - - -", () -> Checks.solved(x));
        VersionSolver y = Checks.registry("0 1.0.0", "0 2.0.0;1 *", "1 1.0.0");
        Checks.want(y, 0, "*");
        Checks.due("the higher one of 0 comes before none of 1", "1 2 - - - - - -", () -> Checks.solved(y));
    }

    private static void reached() {
        VersionSolver x = Checks.registry("0 1.0.0;1 *", "1 1.0.0;0 *", "2 1.0.0");
        Checks.want(x, 2, "*");
        Checks.due("a ring that nobody wants", "- - 2 - - - - -", () -> Checks.solved(x));
        Checks.want(x, 1, "*");
        Checks.due("a ring that is wanted", "0 1 2 - - - - -", () -> Checks.solved(x));
        VersionSolver y = Checks.registry("7 1.0.0;6 *", "6 1.0.0;5 *", "5 1.0.0;4 *", "4 1.0.0;3 *", "3 1.0.0;2 *",
                "2 1.0.0;1 *", "1 1.0.0;0 *", "0 1.0.0;7 *");
        Checks.want(y, 7, "*");
        Checks.due("a long chain", "7 6 5 4 3 2 1 0", () -> Checks.solved(y));
        Checks.due("how many", 8, y::solve);
        // 2 could only be reached by a version of 1 that is not given
        VersionSolver z = Checks.registry("1 1.0.0;2 *;0 1", "1 2.0.0", "2 1.0.0", "0 1.0.0;2 *", "0 2.0.0");
        Checks.want(z, 0, "2");
        Checks.want(z, 1, "2");
        Checks.due("not reached", "4 1 - - - - - -", () -> Checks.solved(z));
    }

    private static void itself() {
        VersionSolver x = Checks.registry("0 1.0.0;0 1", "0 2.0.0;0 1", "0 3.0.0;0 >=3,<4");
        Checks.want(x, 0, "<3");
        Checks.due("2.0.0 does not meet its own requirement", "0 - - - - - - -", () -> Checks.solved(x));
        Checks.want(x, 0, "2");
        Checks.due("alone it is no solution", Checks.STATE, x::solve);
        Checks.want(x, 0, "*");
        Checks.due("3.0.0 meets its own", "2 - - - - - - -", () -> Checks.solved(x));
        x.drop(0);
        Checks.due("its own requirement reaches nothing", "- - - - - - - -", () -> Checks.solved(x));
        x.pin(1);
        Checks.want(x, 0, "<3");
        Checks.due("also when it is pinned", "0 - - - - - - -", () -> Checks.solved(x));
    }

    private static void yankedOnes() {
        VersionSolver x = Checks.registry("0 1.0.0", "0 2.0.0", "1 1.0.0;0 2");
        Checks.want(x, 0, "*");
        x.yank(1, true);
        Checks.due("not a yanked one", "0 - - - - - - -", () -> Checks.solved(x));
        x.pin(1);
        Checks.due("but a pinned one", "1 - - - - - - -", () -> Checks.solved(x));
        x.pin(0);
        Checks.due("another one is pinned", "0 - - - - - - -", () -> Checks.solved(x));
        Checks.want(x, 1, "*");
        Checks.due("needed, but yanked", Checks.STATE, x::solve);
        x.pin(1);
        Checks.due("needed and pinned", "1 2 - - - - - -", () -> Checks.solved(x));
        x.unlock();
        x.yank(1, false);
        Checks.due("no longer yanked", "1 2 - - - - - -", () -> Checks.solved(x));
    }

    private static void throwsAndKeeps() {
        VersionSolver x = Checks.registry("0 1.0.0;1 1;2 1", "1 1.0.0;3 1", "2 1.0.0;3 2", "3 1.0.0", "3 2.0.0");
        Checks.want(x, 1, "*");
        Checks.due("package 1", "- 1 - 3 - - - -", () -> Checks.solved(x));
        Checks.want(x, 0, "*");
        Checks.due("1 and 2 want other versions of 3", Checks.STATE, x::solve);
        Checks.due("what was chosen stays", "- 1 - 3 - - - -", () -> Checks.choice(x));
        Checks.due("and so for the file", "1 1.0.0\n3 1.0.0\n", () -> Checks.fileOf(x));
        Checks.due("and so for the lock", 2, x::lock);
        Checks.due("the root stays", 2, () -> x.told(2));
    }

    private static void chosenStays() {
        VersionSolver x = Checks.registry("0 1.0.0");
        Checks.want(x, 0, "*");
        Checks.due("solved", 1, x::solve);
        Checks.publish(x, 0, "2.0.0");
        Checks.due("published since", "0 - - - - - - -", () -> Checks.choice(x));
        x.yank(0, true);
        Checks.due("yanked since", "0 - - - - - - -", () -> Checks.choice(x));
        x.drop(0);
        Checks.due("dropped since", "0 - - - - - - -", () -> Checks.choice(x));
        Checks.want(x, 0, "2");
        Checks.due("wanted since", "0 - - - - - - -", () -> Checks.choice(x));
        x.pin(1);
        Checks.due("pinned since", "0 - - - - - - -", () -> Checks.choice(x));
        Checks.due("locked as it was chosen", 1, x::lock);
        Checks.due("the pin before", 0, () -> x.pin(0));
        Checks.due("written as it was chosen", "0 1.0.0\n", () -> Checks.fileOf(x));
        Checks.due("solved again", "1 - - - - - - -", () -> Checks.solved(x));
        x.drop(0);
        Checks.due("the empty solution is chosen too", 0, x::solve);
        Checks.due("it has none", "- - - - - - - -", () -> Checks.choice(x));
        Checks.due("it locks none", 0, x::lock);
        Checks.due("it writes nothing", 0, x::write);
    }

    private static void pinnedFirst() {
        VersionSolver x = Checks.registry("0 1.0.0;1 *", "0 2.0.0;1 *", "1 1.0.0", "1 2.0.0", "1 3.0.0");
        Checks.want(x, 0, "*");
        x.pin(0);
        x.pin(3);
        Checks.due("pinned ones before higher ones", "0 3 - - - - - -", () -> Checks.solved(x));
        Checks.want(x, 0, "2");
        Checks.due("a pinned one that does not meet", "1 3 - - - - - -", () -> Checks.solved(x));
        x.pin(2);
        Checks.want(x, 1, ">1");
        Checks.due("then the highest", "1 4 - - - - - -", () -> Checks.solved(x));
    }

    /** All packages, five versions each, in which each pair of neighbours differs. */
    private static void wide() {
        VersionSolver x = new VersionSolver();
        for (int pack = 0; pack < 8; pack++) {
            for (int version = 1; version <= 5; version++) {
                String others = pack == 7 ? "" : ";" + (pack + 1) + " <" + version;
                Checks.publish(x, pack, version + ".0.0" + others);
            }
        }
        Checks.want(x, 3, "*");
        Checks.due("five packages, each below the one before", "- - - 19 23 27 31 35", () -> Checks.solved(x));
        Checks.want(x, 2, "*");
        Checks.due("six packages can't be", Checks.STATE, x::solve);
        Checks.due("what was chosen stays", "- - - 19 23 27 31 35", () -> Checks.choice(x));
    }

    /** Any two of three packages go together, but not all three: only trying can tell. */
    private static void notAllThree() {
        VersionSolver x = Checks.registry("0 1.0.0;1 2;2 >1", "0 2.0.0;1 1;2 1", "1 1.0.0;2 >1", "1 2.0.0;2 1", "2 1.0.0",
                "2 2.0.0");
        Checks.want(x, 0, "*");
        Checks.due("not all three", Checks.STATE, x::solve);
        Checks.publish(x, 3, "1.0.0;0 *");
        Checks.publish(x, 3, "2.0.0");
        Checks.want(x, 3, "*");
        Checks.due("not with a fourth", Checks.STATE, x::solve);
        x.drop(0);
        Checks.due("the fourth without them", "- - - 7 - - - -", () -> Checks.solved(x));
        Checks.publish(x, 0, "0.0.1;1 2;2 1");
        Checks.want(x, 0, "*");
        Checks.due("a version that goes with both", "8 3 4 7 - - - -", () -> Checks.solved(x));
        x.pin(0);
        x.pin(2);
        x.pin(5);
        Checks.due("whatever is pinned", "8 3 4 7 - - - -", () -> Checks.solved(x));
    }

    /** Five versions of package 7, of which each needs some of the packages before. */
    private static void noneFirstOfMany() {
        VersionSolver x = Checks.registry("7 1.0.0;3 *", "7 2.0.0;2 *", "7 3.0.0;1 *;2 *", "7 4.0.0;1 *", "7 5.0.0;0 *",
                "0 1.0.0", "1 1.0.0", "2 1.0.0", "3 1.0.0");
        Checks.want(x, 7, "*");
        Checks.due("the earlier packages have none", "- - - 8 - - - 0", () -> Checks.solved(x));
        Checks.want(x, 7, ">1");
        Checks.due("0 and 1 have none", "- - 7 - - - - 1", () -> Checks.solved(x));
        Checks.want(x, 7, ">2");
        Checks.due("0 and 2 have none", "- 6 - - - - - 3", () -> Checks.solved(x));
        x.yank(3, true);
        Checks.due("0 has none", "- 6 7 - - - - 2", () -> Checks.solved(x));
        Checks.want(x, 0, "*");
        Checks.due("1 and 2 have none", "5 - - - - - - 4", () -> Checks.solved(x));
    }

    /** The higher version of package 0 needs three packages of which only two go together. */
    private static void triesAll(int between) {
        VersionSolver x = Checks.registry("0 1.0.0", "1 1.0.0;2 2;3 2", "1 2.0.0;2 1;3 1", "2 1.0.0;3 2", "2 2.0.0;3 1",
                "3 1.0.0", "3 2.0.0", "0 2.0.0;1 *;2 *;3 *");
        for (int i = 0; i < between; i++) {
            Checks.publish(x, 7, i + ".0.0");
        }
        int last = Checks.publish(x, 0, "0.9.0");
        Checks.want(x, 0, "*");
        Checks.due("the first published", "0 - - - - - - -", () -> Checks.solved(x));
        x.pin(7);
        Checks.due("whatever is pinned", "0 - - - - - - -", () -> Checks.solved(x));
        x.yank(0, true);
        Checks.due("the last published", last + " - - - - - - -", () -> Checks.solved(x));
        x.yank(last, true);
        Checks.due("none of them", Checks.STATE, x::solve);
    }
}
