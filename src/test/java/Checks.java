import java.nio.charset.StandardCharsets;

/** What the tests share: feeding texts, and comparing answers with those that are due. */
final class Checks {
    /** In place of an answer: the call threw. */
    static final String STATE = "IllegalStateException";
    static final String ARGUMENT = "IllegalArgumentException";
    static final String INDEX = "IndexOutOfBoundsException";
    static final String UNSUPPORTED = "UnsupportedOperationException";

    /** What the checks are about just now; it stands before each wrong answer. */
    private static String about = "";
    private static int made = 0;
    private static int wrong = 0;

    private Checks() {
    }

    static void setAbout(String text) {
        about = text;
    }

    /** How many answers were looked at so far. */
    static int made() {
        return made;
    }

    interface Call {
        Object answer();
    }

    static void due(String what, Object due, Call call) {
        made++;
        String got = answerOf(call);
        if (!got.equals(String.valueOf(due))) {
            wrong++;
            System.out.println(about + what + ": answered " + got + ", due is " + due);
        }
    }

    /** The answer as a text, or the simple name of what was thrown. */
    static String answerOf(Call call) {
        try {
            return String.valueOf(call.answer());
        } catch (RuntimeException e) {
            return e.getClass().getSimpleName();
        }
    }

    static void feed(VersionSolver x, String text) {
        byte[] bytes = text.getBytes(StandardCharsets.ISO_8859_1);
        for (int from = 0; from < bytes.length; from += 8) {
            int n = Math.min(8, bytes.length - from);
            long packed = 0;
            for (int i = n - 1; i >= 0; i--) {
                packed = packed << 8 | bytes[from + i] & 255;
            }
            x.feed(packed, n);
        }
    }

    /** An object in which these were published: each a package's digit, a blank, a publication. */
    static VersionSolver registry(String... releases) {
        VersionSolver x = new VersionSolver();
        for (String release : releases) {
            publish(x, release.charAt(0) - '0', release.substring(2));
        }
        return x;
    }

    /** An object with all 40 versions: 0.0.0 to 4.0.0 of each package, package by package. */
    static VersionSolver full() {
        VersionSolver x = new VersionSolver();
        for (int i = 0; i < 40; i++) {
            publish(x, i / 5, i % 5 + ".0.0");
        }
        return x;
    }

    static int publish(VersionSolver x, int pack, String text) {
        feed(x, text);
        return x.publish(pack);
    }

    static Object want(VersionSolver x, int pack, String text) {
        feed(x, text);
        x.want(pack);
        return "wanted";
    }

    static boolean meets(VersionSolver x, int version, String text) {
        feed(x, text);
        return x.meets(version);
    }

    static int best(VersionSolver x, int pack, String text) {
        feed(x, text);
        return x.best(pack);
    }

    /** What was chosen, package by package, with '-' for none. */
    static String choice(VersionSolver x) {
        StringBuilder all = new StringBuilder();
        for (int pack = 0; pack < 8; pack++) {
            int version = x.chosen(pack);
            all.append(pack == 0 ? "" : " ").append(version == VersionSolver.NONE ? "-" : "" + version);
        }
        return all.toString();
    }

    /** Solves and answers what was chosen, or what was thrown. */
    static String solved(VersionSolver x) {
        x.solve();
        return choice(x);
    }

    static String fileOf(VersionSolver x) {
        int length = x.write();
        StringBuilder all = new StringBuilder();
        for (int i = 0; i < length; i++) {
            all.append((char) x.fileByte(i));
        }
        return all.toString();
    }

    static String told(VersionSolver x) {
        return x.told(0) + " " + x.told(1) + " " + x.told(2) + " " + x.told(3) + " " + x.told(4);
    }

    static void end(String test) {
        if (wrong != 0) {
            System.out.println(test + ": " + wrong + " answers are not as due");
            System.exit(1);
        }
    }
}
