/** Promise 14: the precedence of versions. */
public final class PrecedenceTest {
    /** From below to above; versions in one row have the same precedence. */
    private static final String[][] RISING = {
        {"0.0.0-0", "0.0.0-0+z"}, {"0.0.0"}, {"0.0.1"}, {"0.1.0"}, {"0.2.999999999"}, {"0.10.0"},
        {"1.0.0--"}, {"1.0.0"}, {"1.0.1-0"}, {"1.0.1-0.0"}, {"1.0.1-2"}, {"1.0.1-2.0"}, {"1.0.1-2.a"},
        {"1.0.1-11"}, {"1.0.1-999999999"}, {"1.0.1--"}, {"1.0.1--1"}, {"1.0.1-0a"}, {"1.0.1-10a"},
        {"1.0.1-2a"}, {"1.0.1-A"}, {"1.0.1-B"}, {"1.0.1-a"}, {"1.0.1-a.0", "1.0.1-a.0+1"}, {"1.0.1-a.9"},
        {"1.0.1-a.10"}, {"1.0.1-a.a"}, {"1.0.1-a.a.0"}, {"1.0.1-a-"}, {"1.0.1-a0"}, {"1.0.1-aB"}, {"1.0.1-aa"},
        {"1.0.1-b"}, {"1.0.1", "1.0.1+a", "1.0.1+00.b"}, {"1.0.2"},
    };

    public static void main(String[] args) {
        VersionSolver x = new VersionSolver();
        int[] row = new int[40];
        int count = 0;
        for (int i = 0; i < RISING.length; i++) {
            for (int k = 0; k < RISING[i].length; k++) {
                String version = RISING[i][k];
                int pack = k;
                int due = count;
                Checks.due("publish " + version, due, () -> Checks.publish(x, pack, version));
                row[count++] = i;
            }
        }
        for (int a = 0; a < count; a++) {
            for (int b = 0; b < count; b++) {
                int first = a;
                int second = b;
                Checks.due("compare " + RISING[row[a]][0] + " with " + RISING[row[b]][0],
                        Integer.compare(row[a], row[b]), () -> x.compare(first, second));
            }
        }
        for (int none : new int[] {-1, count, 40, Integer.MIN_VALUE, Integer.MAX_VALUE}) {
            Checks.due("compare 0 with " + none, Checks.INDEX, () -> x.compare(0, none));
            Checks.due("compare " + none + " with 0", Checks.INDEX, () -> x.compare(none, 0));
            Checks.due("compare " + none + " twice", Checks.INDEX, () -> x.compare(none, none));
        }
        Checks.end("PrecedenceTest");
    }
}
