/** Promises 3 and 5: what is a PUBLICATION and what is a REQUIREMENT, to the letter. */
public final class GrammarTest {
    private static final String[] VERSIONS = {
        "0.0.0", "1.2.3", "10.20.30", "999999999.0.999999999", "1.0.0-a", "1.0.0-0", "1.0.0-10",
        "1.0.0-999999999", "1.0.0--", "1.0.0---", "1.0.0-a-b", "1.0.0-0a", "1.0.0-00a", "1.0.0-0-",
        "1.0.0-a.b.c", "1.0.0-1.2.3", "1.0.0-Z.z.0.9", "1.0.0-12345678901234567z",
        "1.0.0-a.b.c.d.e.f.g.h.ii", "999999999.999999999.9999",
    };
    private static final String[] BUILDS = {
        "1.0.0+0", "1.0.0+00", "1.0.0+01.001", "1.0.0+-", "1.0.0+a-b.c", "1.0.0-a+b", "1.0.0-a.0+0.00",
        "1.0.0+012345678901234567", "0.0.0-0+Z",
    };
    private static final String[] NO_VERSIONS = {
        "", " ", "1", "1.2", "1.2.", "1..2", ".1.2.3", "1.2.3.", "1.2.3.4", "01.2.3", "1.02.3", "1.2.03",
        "00.0.0", "-1.0.0", "+1.0.0", "v1.0.0", "1.0.x", "1.0.*", "1.0.0-", "1.0.0-.", "1.0.0-a.",
        "1.0.0-.a", "1.0.0-a..b", "1.0.0-01", "1.0.0-a.00", "1.0.0-1234567890", "1.0.0_a", "1.0.0-a_b",
        "1.0.0-a b", "1000000000.0.0", "1.1000000000.0", "1.0.1000000000", "1.0.0-aaaaaaaaaaaaaaaaaaa",
        "1.0.0-a.b.c.d.e.f.g.h.iii", "999999999.999999999.99999", "1.0. 0", "1. 0.0", "1.0.0\n",
        "1.0.0\0", "\0001.0.0", "1.0.0-\u00e9", "1.0.0-a\u00ff", "1,0,0", "1.0.0-a,b",
    };
    private static final String[] NO_BUILDS = {
        "1.0.0+", "1.0.0-a+", "1.0.0-+a", "1.0.0+.", "1.0.0+a.", "1.0.0+.a", "1.0.0+a..b", "1.0.0+a+b",
        "1.0.0+a_b", "1.0.0+0123456789012345678", "1.0.0+\u00e9",
    };
    private static final String[] PARTS = {"0", "7", "999999999", "0.0", "1.2", "999999999.999999999"};
    private static final String[] SIGNS = {"", "^", "~", "=", ">", ">=", "<", "<="};
    private static final String[] STARS = {"*", "0.*", "999999999.*", "0.0.*", "12.34.*"};
    private static final String[] NO_COMPARATORS = {
        "", " ", "^", ">", ">=", "<=", "==1", "=>1", "=<1", "<>1", "><1", "^^1", "~>1", "!1", "!=1", ">==1",
        "^*", "~*", "=*", ">*", ">=*", "**", "*.*", "*.1", "1*", "1.*.*", "1.*.1", "1.2.*.*", "1.2.3.*",
        "^1.*", "~1.2.*", ">=1.*", "=1.*", "<1.2.*", "1.*-a", "1.2.*-a", "^ 1", "> =1", ">= 1", "1 2", "1 .2",
        "1. 2", "1 -a", "1-a", "1.2-a", "1.2+a", "1.2.3+a", "=1.2.3-a+b", "1.x", "x", "X", "1.2.x", "1.",
        "1.2.", "1.2.3.", "01", "0.01", "1.01.*", "01.*", "1000000000", "0.1000000000", "1000000000.*",
        "^1.2.3-", "1.2.3-a.", "1.2.3-01", "1.2.3-1234567890", "\t1", "1\t", "1;", ";", "1|2", "1||2",
        "1.2.3-a.*", "- 1", "1 - 2", "\u00a01",
    };

    public static void main(String[] args) {
        versions();
        comparators();
        requirements();
        publications();
        Checks.end("GrammarTest");
    }

    private static void versions() {
        for (String version : VERSIONS) {
            published(version, true);
            for (String sign : SIGNS) {
                wanted(sign + version, true);
            }
        }
        for (String version : BUILDS) {
            published(version, true);
            wanted(version, false);
        }
        for (String version : NO_VERSIONS) {
            published(version, false);
        }
        for (String version : NO_BUILDS) {
            published(version, false);
            wanted(version, false);
        }
    }

    private static void comparators() {
        for (String part : PARTS) {
            for (String sign : SIGNS) {
                wanted(sign + part, true);
                wanted("  " + sign + part + "  ", true);
                published(sign + part, false);
            }
        }
        for (String star : STARS) {
            wanted(star, true);
            wanted("  " + star + " ", true);
            for (int i = 1; i < SIGNS.length; i++) {
                wanted(SIGNS[i] + star, false);
            }
        }
        for (String text : NO_COMPARATORS) {
            wanted(text, false);
            wanted("1," + text, false);
            wanted(text + ",1", false);
            published("1.0.0;1 " + text, false);
        }
        // the sign does not count among the 24 bytes
        wanted(">=1.2.3-aaaaaaaaaaaaaaaaaa", true);
        wanted("1.2.3-aaaaaaaaaaaaaaaaaaa", false);
    }

    private static void requirements() {
        wanted("1,2", true);
        wanted("1,2,3", true);
        wanted("1,2,3,4", true);
        wanted("1,2,3,4,5", false);
        wanted("1,2,3,4,", false);
        wanted("1,", false);
        wanted(",", false);
        wanted(",1", false);
        wanted("1,,2", false);
        wanted("1, ,2", false);
        wanted(" 1 , 2 , 3 , 4 ", true);
        wanted("*,*,*,*", true);
        wanted("   *   ,1.*,   ~2  ,<=3.4.5-a.b  ", true);
        wanted("1;2", false);
        wanted("1 1", false);
    }

    private static void publications() {
        published("1.0.0;0 *", true);
        published("1.0.0;7 *", true);
        published("1.0.0;8 *", false);
        published("1.0.0;9 *", false);
        published("1.0.0;/ *", false);
        published("1.0.0;: *", false);
        published("1.0.0;a *", false);
        published("1.0.0;-1 *", false);
        published("1.0.0;01 *", false);
        published("1.0.0;12 *", false);
        published("1.0.0; *", false);
        published("1.0.0;*", false);
        published("1.0.0;1*", false);
        published("1.0.0;1", false);
        published("1.0.0;1 ", false);
        published("1.0.0;1  ", false);
        published("1.0.0;", false);
        published("1.0.0;;1 *", false);
        published("1.0.0;1 *;", false);
        published("1.0.0 ;1 *", false);
        published("1.0.0; 1 *", false);
        published(" 1.0.0;1 *", false);
        published("1.0.0 ", false);
        published("1.0.0,1 *", false);
        published("1.0.0;1\t*", false);
        published("1.0.0;1    *   ;2  1 , 2  ", true);
        published("1.0.0-a.b+c.d;1 ^1.0.0-a.b", true);
        published("1.0.0;1 1,2,3,4;2 1,2,3,4", true);
        published("1.0.0;1 1,2,3,4,5;2 1", false);
        published("1.0.0;0 *;1 *;2 *;3 *;4 *", true);
        published("1.0.0;0 *;1 *;2 *;3 *;4 *;5 *", false);
        published("1.0.0;1 *;1 *", false);
        published("1.0.0;1 *;2 *;1 *", false);
        published("1.0.0;3 *;2 *;1 *", true);
        String most = "1.0.0;1 >=1.0.0-aaaaaaaaaaaaaaaaaa,>=1.0.0-bbbbbbbbbbbbbbbbbb,"
                + ">=1.0.0-cccccccccccccccccc,>=1.0.0-dddddddddddddddddd;2 *;3 *;4 *;5 *";
        published(most + " ".repeat(160 - most.length()), true);
        published("1.0.0;1 *" + " ".repeat(150) + ";", false);
        published("1.0.0;1 *" + " ".repeat(149) + ";2", false);
        published("1.0.0;1 *" + " ".repeat(148) + ";2 ", false);
        published("1.0.0;1 *" + " ".repeat(147) + ";2 1", true);
        published("1.0.0;1 *" + " ".repeat(146) + ";2 1.", false);
        published("1.0.0;1 *" + " ".repeat(145) + ";2 >=", false);
        published(most.replace(";5 *", ";5 1") + " ".repeat(159 - most.length()) + ",", false);
    }

    static void published(String text, boolean sound) {
        for (int pack = 0; pack < 8; pack += 7) {
            VersionSolver x = new VersionSolver();
            int at = pack;
            Checks.feed(x, text);
            Checks.due("publish of '" + text + "'", sound ? "0" : Checks.ARGUMENT, () -> x.publish(at));
            Checks.due("versions then", sound ? 1 : 0, () -> x.told(0));
        }
    }

    static void wanted(String text, boolean sound) {
        VersionSolver x = new VersionSolver();
        Checks.publish(x, 3, "1.0.0");
        Checks.due("want of '" + text + "'", sound ? "wanted" : Checks.ARGUMENT, () -> Checks.want(x, 3, text));
        Checks.due("requirements then", sound ? 1 : 0, () -> x.told(2));
        String other = sound ? "none" : Checks.ARGUMENT;
        Checks.due("best of '" + text + "'", other, () -> {
            Checks.best(x, 0, text);
            return "none";
        });
        Checks.due("meets of '" + text + "'", other, () -> {
            Checks.meets(x, 0, text);
            return "none";
        });
    }
}
