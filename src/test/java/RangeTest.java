/** Promises 12 and 13: which versions meet a requirement, and which is the best. */
public final class RangeTest {
    private static final String[] VERSIONS = {
        "0.0.0", "0.0.1", "0.0.2", "0.1.0", "0.1.1", "0.2.0", "1.0.0-a", "1.0.0-b.1", "1.0.0", "1.0.1", "1.2.0",
        "1.2.3-a", "1.2.3-b", "1.2.3", "1.2.4-a", "1.2.4", "1.3.0-a", "1.3.0", "1.9.9", "2.0.0-a", "2.0.0", "2.1.0",
        "999999999.999999999.0",
    };

    public static void main(String[] args) {
        parts();
        wholes();
        words();
        several();
        best();
        wrongInputs();
        Checks.end("RangeTest");
    }

    private static void parts() {
        String all = "0.0.0 0.0.1 0.0.2 0.1.0 0.1.1 0.2.0 1.0.0 1.0.1 1.2.0 1.2.3 1.2.4 1.3.0 1.9.9 2.0.0 2.1.0"
                + " 999999999.999999999.0";
        met("*", all);
        String zero = "0.0.0 0.0.1 0.0.2 0.1.0 0.1.1 0.2.0";
        String one = "1.0.0 1.0.1 1.2.0 1.2.3 1.2.4 1.3.0 1.9.9";
        String two = "2.0.0 2.1.0";
        String top = "999999999.999999999.0";
        for (String sign : new String[] {"", "^", "~", "="}) {
            met(sign + "0", zero);
            met(sign + "1", one);
            met(sign + "3", "");
            met(sign + "999999999", top);
        }
        met("0.*", zero);
        met("1.*", one);
        for (String sign : new String[] {"~", "="}) {
            met(sign + "0.0", "0.0.0 0.0.1 0.0.2");
            met(sign + "0.1", "0.1.0 0.1.1");
            met(sign + "1.2", "1.2.0 1.2.3 1.2.4");
            met(sign + "999999999.999999999", top);
        }
        met("0.0.*", "0.0.0 0.0.1 0.0.2");
        met("1.2.*", "1.2.0 1.2.3 1.2.4");
        for (String sign : new String[] {"", "^"}) {
            met(sign + "0.0", "0.0.0 0.0.1 0.0.2");
            met(sign + "0.1", "0.1.0 0.1.1");
            met(sign + "1.2", "1.2.0 1.2.3 1.2.4 1.3.0 1.9.9");
            met(sign + "1.0", one);
        }
        met(">=1", one + " " + two + " " + top);
        met(">1", two + " " + top);
        met("<1", zero);
        met("<=1", zero + " " + one);
        met("<0", "");
        met(">999999999", "");
        met(">=1.2", "1.2.0 1.2.3 1.2.4 1.3.0 1.9.9 2.0.0 2.1.0 " + top);
        met(">1.2", "1.3.0 1.9.9 2.0.0 2.1.0 " + top);
        met("<1.2", zero + " 1.0.0 1.0.1");
        met("<=1.2", zero + " 1.0.0 1.0.1 1.2.0 1.2.3 1.2.4");
        met(">2.0", "2.1.0 " + top);
    }

    private static void wholes() {
        met("1.2.3", "1.2.3 1.2.4 1.3.0 1.9.9");
        met("^1.2.3", "1.2.3 1.2.4 1.3.0 1.9.9");
        met("^0.0.0", "0.0.0");
        met("^0.0.1", "0.0.1");
        met("^0.1.0", "0.1.0 0.1.1");
        met("^0.1.1", "0.1.1");
        met("^1.0.0", "1.0.0 1.0.1 1.2.0 1.2.3 1.2.4 1.3.0 1.9.9");
        met("~0.0.1", "0.0.1 0.0.2");
        met("~1.2.3", "1.2.3 1.2.4");
        met("=1.2.3", "1.2.3");
        met("=1.2.2", "");
        met(">1.9.9", "2.0.0 2.1.0 999999999.999999999.0");
        met(">=1.9.9", "1.9.9 2.0.0 2.1.0 999999999.999999999.0");
        met("<0.0.2", "0.0.0 0.0.1");
        met("<=0.0.2", "0.0.0 0.0.1 0.0.2");
        met("<0.0.0", "");
    }

    private static void words() {
        met("^1.2.3-a", "1.2.3-a 1.2.3-b 1.2.3 1.2.4 1.3.0 1.9.9");
        met("^1.2.3-aa", "1.2.3-b 1.2.3 1.2.4 1.3.0 1.9.9");
        met("~1.2.3-b", "1.2.3-b 1.2.3 1.2.4");
        met("=1.2.3-a", "1.2.3-a");
        met(">1.2.3-a", "1.2.3-b 1.2.3 1.2.4 1.3.0 1.9.9 2.0.0 2.1.0 999999999.999999999.0");
        met(">=1.9.9-a", "1.9.9 2.0.0 2.1.0 999999999.999999999.0");
        met("<=1.0.0-b", "0.0.0 0.0.1 0.0.2 0.1.0 0.1.1 0.2.0 1.0.0-a");
        met("<1.0.0-b.1", "0.0.0 0.0.1 0.0.2 0.1.0 0.1.1 0.2.0 1.0.0-a");
        met("<=1.0.0-b.1", "0.0.0 0.0.1 0.0.2 0.1.0 0.1.1 0.2.0 1.0.0-a 1.0.0-b.1");
        met("<1.0.0", "0.0.0 0.0.1 0.0.2 0.1.0 0.1.1 0.2.0");
        met("^0.0.1-a", "0.0.1");
        met("^0.1.0-a", "0.1.0 0.1.1");
        met("^0.0.0-0", "0.0.0");
    }

    private static void several() {
        met(">=1.2, <1.3", "1.2.0 1.2.3 1.2.4");
        met(">=1.2.3-a,<1.2.4", "1.2.3-a 1.2.3-b 1.2.3");
        met(">=1.2.3-b,<=1.2.4-a", "1.2.3-b 1.2.3 1.2.4-a");
        met(">=1.2.3-b,<1.2.4-a,*", "1.2.3-b 1.2.3");
        met("1,2", "");
        met("^1,>1.0,<1.9,>1.2", "1.3.0");
        // below 2.0.0 by precedence, and 2.0.0 stands with words in the other comparator
        met("^1.3,>=2.0.0-a", "2.0.0-a");
        met("^1.3,<2.0.0-b", "1.3.0 1.9.9 2.0.0-a");
        met("*,<=1.0.0-a", "0.0.0 0.0.1 0.0.2 0.1.0 0.1.1 0.2.0 1.0.0-a");
        met("<1,>=1.0.0-a", "1.0.0-a 1.0.0-b.1");
        met("*,*,*,=1.3.0-a", "1.3.0-a");
    }

    private static void met(String requirement, String due) {
        StringBuilder got = new StringBuilder();
        VersionSolver x = registry(VERSIONS);
        for (int i = 0; i < VERSIONS.length; i++) {
            if (Checks.meets(x, i, requirement)) {
                got.append(got.length() == 0 ? "" : " ").append(VERSIONS[i]);
            }
        }
        Checks.due("who meets " + requirement, due, got::toString);
        String last = due.substring(due.lastIndexOf(' ') + 1);
        Checks.due("best of " + requirement, last, () -> {
            int best = Checks.best(x, 5, requirement);
            return best == VersionSolver.NONE ? "" : VERSIONS[best];
        });
    }

    private static VersionSolver registry(String... versions) {
        VersionSolver x = new VersionSolver();
        for (String version : versions) {
            Checks.publish(x, 5, version);
        }
        return x;
    }

    private static void best() {
        VersionSolver x = registry("1.0.0", "1.5.0", "1.2.0", "2.0.0-a", "1.4.0");
        Checks.publish(x, 4, "1.9.0");
        Checks.due("not the latest, but the highest", 1, () -> Checks.best(x, 5, "^1"));
        Checks.due("of another package", 5, () -> Checks.best(x, 4, "^1"));
        Checks.due("of an empty package", VersionSolver.NONE, () -> Checks.best(x, 3, "*"));
        x.yank(1, true);
        x.pin(1);
        Checks.due("not a yanked one, pinned or not", 4, () -> Checks.best(x, 5, "^1"));
        Checks.due("but it meets", true, () -> Checks.meets(x, 1, "^1"));
        x.yank(4, true);
        x.yank(2, true);
        x.yank(0, true);
        Checks.due("all yanked", VersionSolver.NONE, () -> Checks.best(x, 5, "^1"));
        Checks.due("with words", 3, () -> Checks.best(x, 5, ">=2.0.0-0"));
        x.yank(1, false);
        Checks.due("no longer yanked", 1, () -> Checks.best(x, 5, "^1"));
    }

    private static void wrongInputs() {
        VersionSolver x = registry("1.0.0");
        for (int none : new int[] {-1, 1, 40, Integer.MIN_VALUE, Integer.MAX_VALUE}) {
            Checks.due("meets(" + none + ")", Checks.INDEX, () -> Checks.meets(x, none, "*"));
            Checks.due("and with rubbish", Checks.INDEX, () -> Checks.meets(x, none, "?"));
        }
        for (int none : new int[] {-1, 8, Integer.MIN_VALUE, Integer.MAX_VALUE}) {
            Checks.due("best(" + none + ")", Checks.INDEX, () -> Checks.best(x, none, "*"));
            Checks.due("and with rubbish", Checks.INDEX, () -> Checks.best(x, none, "?"));
        }
        Checks.due("meets of no text", Checks.ARGUMENT, () -> x.meets(0));
        Checks.due("best of no text", Checks.ARGUMENT, () -> x.best(0));
        Checks.due("nothing has changed", "1 0 0 0 0", () -> Checks.told(x));
    }
}
