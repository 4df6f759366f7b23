/** Promise 1: what a new object answers. */
public final class NewObjectTest {
    public static void main(String[] args) {
        VersionSolver x = new VersionSolver();
        Checks.due("told", "0 0 0 0 0", () -> Checks.told(x));
        Checks.due("chosen", "- - - - - - - -", () -> Checks.choice(x));
        Checks.due("fileByte(0)", Checks.INDEX, () -> x.fileByte(0));
        Checks.due("unlock", 0, x::unlock);
        Checks.due("lock", 0, x::lock);
        Checks.due("write", 0, x::write);
        Checks.due("solve", 0, x::solve);
        Checks.due("yank(0)", Checks.INDEX, () -> x.yank(0, true));
        Checks.due("NONE", -1, () -> VersionSolver.NONE);
        VersionSolver other = new VersionSolver();
        Checks.publish(other, 0, "1.0.0");
        Checks.due("objects share nothing", "0 0 0 0 0", () -> Checks.told(x));
        Checks.end("NewObjectTest");
    }
}
