/** Promises 17 and 18: the file. */
public final class FileTest {
    public static void main(String[] args) {
        lines();
        longest();
        Checks.end("FileTest");
    }

    private static void lines() {
        VersionSolver x = new VersionSolver();
        Checks.publish(x, 3, "1.0.0-rc.1+Build.007;1  >=1 ;6 *");
        Checks.publish(x, 1, "10.20.30");
        Checks.publish(x, 6, "0.0.0+0");
        Checks.want(x, 3, "1.0.0-0");
        Checks.due("solved", 3, x::solve);
        Checks.due("not written yet", Checks.INDEX, () -> x.fileByte(0));
        Checks.due("written", "1 10.20.30\n3 1.0.0-rc.1+Build.007\n6 0.0.0+0\n", () -> Checks.fileOf(x));
        Checks.due("how many bytes", 44, x::write);
        Checks.due("the first", 49, () -> x.fileByte(0));
        Checks.due("a blank", 32, () -> x.fileByte(1));
        Checks.due("a line end", 10, () -> x.fileByte(10));
        Checks.due("the last", 10, () -> x.fileByte(43));
        for (int none : new int[] {-1, 44, 215, 216, Integer.MIN_VALUE, Integer.MAX_VALUE}) {
            Checks.due("fileByte(" + none + ")", Checks.INDEX, () -> x.fileByte(none));
        }
        x.drop(3);
        x.solve();
        Checks.due("the file stays until it is written", 51, () -> x.fileByte(11));
        Checks.due("nothing chosen", 0, x::write);
        Checks.due("an empty file", Checks.INDEX, () -> x.fileByte(0));
        Checks.want(x, 1, "*");
        x.solve();
        Checks.due("a shorter file", "1 10.20.30\n", () -> Checks.fileOf(x));
        Checks.due("and nothing behind it", Checks.INDEX, () -> x.fileByte(11));
    }

    private static void longest() {
        VersionSolver x = new VersionSolver();
        StringBuilder due = new StringBuilder();
        for (int pack = 0; pack < 8; pack++) {
            String version = pack + ".0.0-aaaaaaaaaaaaaaaa+" + pack;
            Checks.publish(x, pack, version);
            Checks.want(x, pack, ">=" + pack + ".0.0-0");
            due.append(pack).append(' ').append(version).append('\n');
        }
        Checks.due("eight packages", 8, x::solve);
        Checks.due("how many bytes", 216, x::write);
        Checks.due("written", due, () -> Checks.fileOf(x));
        Checks.due("the last byte", 10, () -> x.fileByte(215));
        Checks.due("behind it", Checks.INDEX, () -> x.fileByte(216));
    }
}
