import java.util.Arrays;
import java.util.Random;

/** All promises: runs of random calls, answered by VersionSolver as by the Model. */
public final class RandomRunsTest {
    /**
     * FREE: all that the grammar has. LOOSE: requirements that many versions meet, so that many
     * packages have versions. TIGHT: few versions that exclude one another.
     */
    private enum Kind { FREE, LOOSE, TIGHT }

    private static final String[] SIGNS = {"", "^", "~", "=", ">", ">=", "<", "<="};
    private static final String ODD = " .,;*^~=><+-0129aZ\n\u00e9";

    /** How often a solution had so many packages, and how often there was none. */
    private static final int[] sizes = new int[9];
    private static int unsolved;

    private final Random random;
    private final int packs;
    private final int top;
    private final int breaks;
    private final Kind kind;
    private final VersionSolver x = new VersionSolver();
    private final Model model = new Model();
    private final StringBuilder told = new StringBuilder();

    private RandomRunsTest(long seed) {
        random = new Random(seed);
        kind = Kind.values()[random.nextInt(3)];
        packs = switch (kind) {
            case FREE -> 1 + random.nextInt(8);
            case LOOSE -> 4 + random.nextInt(5);
            case TIGHT -> 3 + random.nextInt(4);
        };
        top = switch (kind) {
            case FREE -> 1 + random.nextInt(3);
            case LOOSE -> 5;
            case TIGHT -> 2;
        };
        breaks = kind != Kind.FREE ? 200 : random.nextInt(3) == 0 ? 4 : 40;
    }

    public static void main(String[] args) {
        int runs = args.length > 0 ? Integer.parseInt(args[0]) : 600;
        long from = args.length > 1 ? Long.parseLong(args[1]) : 0;
        for (long seed = from; seed < from + runs; seed++) {
            new RandomRunsTest(seed).run();
        }
        System.out.println("RandomRunsTest: " + runs + " runs, no solution " + unsolved
                + " times, solutions by their packages " + Arrays.toString(sizes));
    }

    private void run() {
        int most = 40 + random.nextInt(472);
        int publications = switch (kind) {
            case FREE -> 3 + random.nextInt(random.nextInt(4) == 0 ? 40 : 14);
            case LOOSE -> 2 * packs + random.nextInt(8);
            case TIGHT -> 3 * packs;
        };
        for (int i = 0; i < most; i++) {
            if (model.told(0) < publications && random.nextInt(3) != 0) {
                publish();
            } else {
                call();
            }
        }
        for (int i = -1; i < 9; i++) {
            int at = i;
            same("chosen " + i, () -> x.chosen(at), () -> model.chosen(at));
            same("told " + i, () -> x.told(at), () -> model.told(at));
        }
    }

    private void call() {
        int version = random.nextInt(Math.max(1, model.told(0)) + (random.nextInt(9) == 0 ? 3 : 0)) - random.nextInt(40) / 39;
        int pack = random.nextInt(19) == 0 ? random.nextInt(12) - 2 : random.nextInt(packs);
        switch (random.nextInt(20)) {
            case 0 -> {
                boolean on = random.nextInt(3) == 0;
                same("yank " + version + on, () -> x.yank(version, on), () -> model.yank(version, on));
            }
            case 1, 2 -> {
                feed(requirement());
                same("want " + pack, () -> {
                    x.want(pack);
                    return null;
                }, () -> model.want(pack));
            }
            case 3 -> same("drop " + pack, () -> x.drop(pack), () -> model.drop(pack));
            case 4, 5, 6, 7 -> {
                if (model.choices() < 20000) {
                    solve();
                }
            }
            case 8 -> same("chosen " + pack, () -> x.chosen(pack), () -> model.chosen(pack));
            case 9 -> {
                if (random.nextInt(3) == 0) {
                    same("lock", x::lock, model::lock);
                }
            }
            case 10 -> same("pin " + version, () -> x.pin(version), () -> model.pin(version));
            case 11 -> {
                if (random.nextInt(3) == 0) {
                    same("unlock", x::unlock, model::unlock);
                }
            }
            case 12, 13 -> {
                feed(requirement());
                same("meets " + version, () -> x.meets(version), () -> model.meets(version));
            }
            case 14 -> {
                feed(requirement());
                same("best " + pack, () -> x.best(pack), () -> model.best(pack));
            }
            case 15 -> {
                int other = random.nextInt(Math.max(1, model.told(0)));
                same("compare " + version + " " + other, () -> x.compare(version, other), () -> model.compare(version, other));
            }
            case 16 -> {
                int k = random.nextInt(8) - 1;
                same("needs " + version + " " + k, () -> x.needs(version, k), () -> model.needs(version, k));
            }
            case 17 -> {
                int what = random.nextInt(7) - 1;
                same("told " + what, () -> x.told(what), () -> model.told(what));
            }
            case 18 -> same("write", x::write, model::write);
            default -> {
                int i = random.nextInt(90) - 1;
                same("fileByte " + i, () -> x.fileByte(i), () -> model.fileByte(i));
            }
        }
    }

    private void solve() {
        String answer = same("solve", x::solve, model::solve);
        for (int pack = 0; pack < packs; pack++) {
            int at = pack;
            same("chosen " + pack, () -> x.chosen(at), () -> model.chosen(at));
        }
        if (answer.length() < 2) {
            sizes[Integer.parseInt(answer)]++;
        } else {
            unsolved++;
            // else a run that once has no solution would hardly ever have one again
            int dropped = random.nextInt(packs);
            same("drop " + dropped, () -> x.drop(dropped), () -> model.drop(dropped));
        }
    }

    private void publish() {
        StringBuilder text = new StringBuilder(version(true));
        int needs = random.nextInt(kind == Kind.TIGHT ? 6 : 4);
        for (int i = 0; i < needs; i++) {
            text.append(';').append(random.nextInt(packs)).append(' ').append(requirement());
        }
        feed(broken(text.toString()));
        int pack = random.nextInt(50) == 0 ? random.nextInt(12) - 2 : random.nextInt(packs);
        same("publish " + pack, () -> x.publish(pack), () -> model.publish(pack));
    }

    private String requirement() {
        StringBuilder text = new StringBuilder();
        int comparators = random.nextInt(kind != Kind.FREE ? 12 : 4) == 0 ? 1 + random.nextInt(4) : 1;
        for (int i = 0; i < comparators; i++) {
            text.append(i == 0 ? "" : ",").append(" ".repeat(random.nextInt(8) / 6)).append(comparator());
            text.append(" ".repeat(random.nextInt(8) / 6));
        }
        return broken(text.toString());
    }

    private String comparator() {
        String sign = SIGNS[random.nextInt(SIGNS.length)];
        if (kind == Kind.TIGHT && random.nextInt(12) != 0) {
            String[] some = {"=0", "=1", "=2", "<2", ">0", "<2", ">0", "*"};
            return some[random.nextInt(some.length)];
        }
        if (kind == Kind.LOOSE && random.nextInt(8) != 0) {
            String[] some = {"*", ">=" + number(), "<=" + number(), ">=1", "<=4", "^" + number()};
            return some[random.nextInt(some.length)];
        }
        return switch (random.nextInt(8)) {
            case 0 -> "*";
            case 1 -> number() + ".*";
            case 2 -> number() + "." + number() + ".*";
            case 3, 4 -> sign + number();
            case 5 -> sign + number() + "." + number();
            default -> sign + version(false);
        };
    }

    private String version(boolean build) {
        if (kind != Kind.FREE && random.nextInt(8) != 0) {
            return number() + ".0.0";
        }
        StringBuilder text = new StringBuilder();
        text.append(number()).append('.').append(number()).append('.').append(number());
        if (random.nextInt(3) == 0) {
            text.append('-').append(words());
        }
        if (build && random.nextInt(6) == 0) {
            text.append('+').append(words());
        }
        return text.toString();
    }

    private String words() {
        String[] words = {"a", "b", "0", "1", "2", "10", "-", "a-", "A", "0a", "rc", "00"};
        StringBuilder text = new StringBuilder();
        int count = 1 + random.nextInt(2);
        for (int i = 0; i < count; i++) {
            text.append(i == 0 ? "" : ".").append(words[random.nextInt(random.nextInt(9) == 0 ? words.length : 6)]);
        }
        return text.toString();
    }

    private String number() {
        return random.nextInt(60) == 0 ? "999999999" : "" + random.nextInt(top + 1);
    }

    /** Now and then a byte more, less or other. */
    private String broken(String text) {
        if (text.isEmpty() || random.nextInt(breaks) != 0) {
            return text;
        }
        int at = random.nextInt(text.length());
        String odd = "" + ODD.charAt(random.nextInt(ODD.length()));
        return switch (random.nextInt(3)) {
            case 0 -> text.substring(0, at) + text.substring(at + 1);
            case 1 -> text.substring(0, at) + odd + text.substring(at + 1);
            default -> text.substring(0, at) + odd + text.substring(at);
        };
    }

    private void feed(String text) {
        for (int from = 0; from < text.length();) {
            int n = Math.min(text.length() - from, 1 + random.nextInt(8));
            long bytes = random.nextLong();
            for (int i = 0; i < n; i++) {
                bytes &= ~(255L << 8 * i);
                bytes |= (long) text.charAt(from + i) << 8 * i;
            }
            long packed = bytes;
            same("feed " + text.substring(from, from + n), () -> x.feed(packed, n), () -> model.feed(packed, n));
            from += n;
        }
    }

    private String same(String what, Checks.Call call, Checks.Call due) {
        String got = Checks.answerOf(call);
        String wanted = Checks.answerOf(due);
        told.append(what).append(" -> ").append(wanted).append('\n');
        if (!got.equals(wanted)) {
            System.out.println(told);
            System.out.println(what + ": answered " + got + ", the model answers " + wanted);
            System.exit(1);
        }
        return got;
    }
}
