/** Promises 9, 10 and 11: the lock. */
public final class LockTest {
    public static void main(String[] args) {
        pins();
        locks();
        Checks.end("LockTest");
    }

    private static void pins() {
        VersionSolver x = new VersionSolver();
        Checks.publish(x, 0, "1.0.0");
        Checks.publish(x, 0, "2.0.0");
        Checks.publish(x, 1, "1.0.0");
        Checks.due("pin", VersionSolver.NONE, () -> x.pin(0));
        Checks.due("another one of the package", 0, () -> x.pin(1));
        Checks.due("the same one", 1, () -> x.pin(1));
        Checks.due("how many", 1, () -> x.told(3));
        Checks.due("of another package", VersionSolver.NONE, () -> x.pin(2));
        Checks.due("how many", 2, () -> x.told(3));
        x.yank(0, true);
        Checks.due("a yanked one may be pinned", 1, () -> x.pin(0));
        for (int none : new int[] {-1, 3, 40, Integer.MIN_VALUE, Integer.MAX_VALUE}) {
            Checks.due("pin(" + none + ")", Checks.INDEX, () -> x.pin(none));
        }
        Checks.due("how many", 2, () -> x.told(3));
        Checks.due("unlock", 2, x::unlock);
        Checks.due("again", 0, x::unlock);
        Checks.due("how many", 0, () -> x.told(3));
        Checks.due("nothing is pinned", VersionSolver.NONE, () -> x.pin(0));
    }

    private static void locks() {
        VersionSolver x = new VersionSolver();
        Checks.publish(x, 0, "1.0.0;2 *");
        Checks.publish(x, 2, "1.0.0");
        Checks.publish(x, 3, "1.0.0");
        x.pin(2);
        x.pin(1);
        Checks.due("nothing was chosen", 0, x::lock);
        Checks.due("so nothing is pinned", 0, () -> x.told(3));
        Checks.want(x, 0, "*");
        x.solve();
        x.pin(2);
        Checks.due("two were chosen", 2, x::lock);
        Checks.due("and nothing else is pinned", VersionSolver.NONE, () -> x.pin(2));
        Checks.publish(x, 0, "1.1.0;2 *");
        Checks.publish(x, 2, "1.1.0");
        Checks.due("the lock holds", "0 - 1 2 - - - -", () -> {
            Checks.want(x, 3, "*");
            return Checks.solved(x);
        });
        x.drop(3);
        Checks.due("how many", 3, x::unlock);
        Checks.due("the lock is gone", "3 - 4 - - - - -", () -> Checks.solved(x));
        Checks.due("locked anew", 2, x::lock);
        Checks.due("the new one of 0", 3, () -> x.pin(0));
        Checks.due("the new one of 2", 4, () -> x.pin(1));
        Checks.due("the lock does not change what was chosen", "3 - 4 - - - - -", () -> Checks.choice(x));
    }
}
