/** Promises 3, 4, 15 and 16: publishing, yanking, what a version needs, and what is told. */
public final class RegistryTest {
    public static void main(String[] args) {
        numbers();
        samePrecedence();
        forty();
        orderOfThrows();
        yanks();
        needs();
        told();
        Checks.end("RegistryTest");
    }

    private static void numbers() {
        VersionSolver x = new VersionSolver();
        Checks.due("first", 0, () -> Checks.publish(x, 7, "1.0.0"));
        Checks.due("a lower one", 1, () -> Checks.publish(x, 7, "0.9.0"));
        Checks.due("of another package", 2, () -> Checks.publish(x, 0, "1.0.0"));
        Checks.due("one that throws takes no number", Checks.ARGUMENT, () -> Checks.publish(x, 0, "1.0"));
        Checks.due("the next", 3, () -> Checks.publish(x, 0, "1.0.1"));
        for (int none : new int[] {-1, 8, 9, Integer.MIN_VALUE, Integer.MAX_VALUE}) {
            Checks.due("publish(" + none + ")", Checks.INDEX, () -> Checks.publish(x, none, "3.0.0"));
        }
        Checks.due("how many", 4, () -> x.told(0));
    }

    private static void samePrecedence() {
        VersionSolver x = new VersionSolver();
        Checks.publish(x, 1, "1.0.0-a.1+x");
        Checks.due("the same", Checks.STATE, () -> Checks.publish(x, 1, "1.0.0-a.1+x"));
        Checks.due("but for what is behind +", Checks.STATE, () -> Checks.publish(x, 1, "1.0.0-a.1"));
        Checks.due("with requirements", Checks.STATE, () -> Checks.publish(x, 1, "1.0.0-a.1;2 *"));
        Checks.due("in another package", 1, () -> Checks.publish(x, 2, "1.0.0-a.1"));
        Checks.due("another word", 2, () -> Checks.publish(x, 1, "1.0.0-a.2"));
        x.yank(0, true);
        Checks.due("also when it is yanked", Checks.STATE, () -> Checks.publish(x, 1, "1.0.0-a.1"));
        Checks.due("nothing has changed", "3 1 0 0 0", () -> Checks.told(x));
    }

    private static void forty() {
        VersionSolver x = new VersionSolver();
        for (int i = 0; i < 40; i++) {
            int version = i;
            Checks.due("publish " + i, i, () -> Checks.publish(x, version % 8, version + ".0.0"));
        }
        Checks.due("one more", Checks.UNSUPPORTED, () -> Checks.publish(x, 0, "99.0.0"));
        Checks.due("one that is there", Checks.STATE, () -> Checks.publish(x, 0, "0.0.0"));
        Checks.due("rubbish", Checks.ARGUMENT, () -> Checks.publish(x, 0, "99.0"));
        Checks.due("no package", Checks.INDEX, () -> Checks.publish(x, 8, "99.0"));
        Checks.due("how many", 40, () -> x.told(0));
        Checks.due("the last", false, () -> x.yank(39, true));
        Checks.due("none behind it", Checks.INDEX, () -> x.yank(40, true));
    }

    private static void orderOfThrows() {
        VersionSolver x = new VersionSolver();
        Checks.publish(x, 0, "1.0.0");
        Checks.due("no package and rubbish", Checks.INDEX, () -> Checks.publish(x, -1, "x"));
        Checks.due("no text", Checks.ARGUMENT, () -> x.publish(0));
        Checks.due("the same, but unsound", Checks.ARGUMENT, () -> Checks.publish(x, 0, "1.0.0;1"));
    }

    private static void yanks() {
        VersionSolver x = new VersionSolver();
        Checks.publish(x, 0, "1.0.0");
        Checks.publish(x, 0, "1.0.1");
        Checks.due("not yanked, and is not", false, () -> x.yank(0, false));
        Checks.due("yanked", false, () -> x.yank(0, true));
        Checks.due("again", true, () -> x.yank(0, true));
        Checks.due("how many", 1, () -> x.told(1));
        Checks.due("the other", false, () -> x.yank(1, true));
        Checks.due("how many", 2, () -> x.told(1));
        Checks.due("no longer", true, () -> x.yank(0, false));
        Checks.due("again", false, () -> x.yank(0, false));
        Checks.due("how many", 1, () -> x.told(1));
        for (int none : new int[] {-1, 2, Integer.MIN_VALUE, Integer.MAX_VALUE}) {
            Checks.due("yank(" + none + ")", Checks.INDEX, () -> x.yank(none, true));
        }
    }

    private static void needs() {
        VersionSolver x = new VersionSolver();
        Checks.publish(x, 2, "1.0.0;7 *;2 1;0 ~1,<2;5 =1;1 >1");
        Checks.publish(x, 2, "1.0.1");
        int[] due = {7, 2, 0, 5, 1, -1, -1};
        for (int k = 0; k < due.length; k++) {
            int at = k;
            Checks.due("needs " + k, due[k], () -> x.needs(0, at));
        }
        for (int k : new int[] {-1, 0, 5, Integer.MIN_VALUE, Integer.MAX_VALUE}) {
            Checks.due("needs of none " + k, -1, () -> x.needs(1, k));
        }
        Checks.due("below 0", -1, () -> x.needs(0, -1));
        for (int none : new int[] {-1, 2, Integer.MIN_VALUE, Integer.MAX_VALUE}) {
            Checks.due("needs of " + none, Checks.INDEX, () -> x.needs(none, 0));
        }
    }

    private static void told() {
        VersionSolver x = new VersionSolver();
        Checks.publish(x, 0, "1.0.0");
        Checks.publish(x, 0, "1.0.1");
        Checks.publish(x, 1, "1.0.0");
        Checks.publish(x, 2, "1.0.0");
        x.yank(3, true);
        x.yank(0, true);
        Checks.want(x, 1, "*");
        Checks.want(x, 4, "*");
        Checks.want(x, 4, "2");
        x.pin(0);
        x.pin(1);
        x.pin(2);
        x.pin(3);
        Checks.feed(x, "12345");
        Checks.due("told", "4 2 2 3 5", () -> Checks.told(x));
        for (int none : new int[] {-1, 5, Integer.MIN_VALUE, Integer.MAX_VALUE}) {
            Checks.due("told(" + none + ")", VersionSolver.NONE, () -> x.told(none));
        }
    }
}
