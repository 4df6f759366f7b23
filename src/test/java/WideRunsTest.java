import java.util.ArrayList;
import java.util.Arrays;
import java.util.Collections;
import java.util.List;
import java.util.Random;

/** The solver at its fullest: 40 versions in all 8 packages, solved as by the Model, which looks at every choice. */
public final class WideRunsTest {
    private static final String[] LOOSE = {"*", ">0", ">1", "<3", "<4", "<4,>0"};
    private static final String[] TIGHT = {"=0", "=1", "=2", "=3", "=4", "<1", "<2", ">2", ">3"};

    /** How often a solution had so many packages, and how often there was none. */
    private static final int[] sizes = new int[9];
    private static int unsolved;

    private final long seed;
    private final Random random;
    /** How many of four requirements are loose. */
    private final int loose;
    private final VersionSolver x = new VersionSolver();
    private final Model model = new Model();

    private WideRunsTest(long seed) {
        this.seed = seed;
        random = new Random(seed);
        loose = 1 + random.nextInt(3);
    }

    public static void main(String[] args) {
        int runs = args.length > 0 ? Integer.parseInt(args[0]) : 8;
        long from = args.length > 1 ? Long.parseLong(args[1]) : 0;
        for (long seed = from; seed < from + runs; seed++) {
            new WideRunsTest(seed).run();
        }
        System.out.println("WideRunsTest: " + runs + " runs, no solution " + unsolved
                + " times, solutions by their packages " + Arrays.toString(sizes));
        Checks.end("WideRunsTest");
    }

    private void run() {
        publishAll();
        for (int round = 0; round < 4; round++) {
            for (int pack = 0; pack < 8; pack++) {
                changeRoot(pack);
            }
            for (int i = 0; round > 0 && i < 4; i++) {
                pinAndYank(random.nextInt(40), random.nextInt(40));
            }
            solve();
        }
    }

    private void publishAll() {
        List<Integer> order = new ArrayList<>();
        for (int i = 0; i < 40; i++) {
            order.add(i);
        }
        Collections.shuffle(order, random);
        for (int i : order) {
            int pack = i / 5;
            String text = i % 5 + ".0.0" + needs(pack);
            feed(text);
            same("publish " + text, () -> x.publish(pack), () -> model.publish(pack));
        }
    }

    private String needs(int pack) {
        StringBuilder text = new StringBuilder();
        int count = random.nextInt(4);
        int first = random.nextInt(8);
        for (int k = 0; k < count; k++) {
            int on = (first + 3 * k) % 8;
            if (on != pack) {
                text.append(';').append(on).append(' ').append(requirement(loose));
            }
        }
        return text.toString();
    }

    private String requirement(int looseOfFour) {
        String[] from = random.nextInt(4) < looseOfFour ? LOOSE : TIGHT;
        return from[random.nextInt(from.length)];
    }

    private void changeRoot(int pack) {
        int what = random.nextInt(9);
        if (what < 3) {
            feed(requirement(3));
            same("want " + pack, () -> {
                x.want(pack);
                return null;
            }, () -> model.want(pack));
        } else if (what < 5) {
            same("drop " + pack, () -> x.drop(pack), () -> model.drop(pack));
        }
    }

    private void pinAndYank(int pinned, int yanked) {
        same("pin " + pinned, () -> x.pin(pinned), () -> model.pin(pinned));
        same("yank " + yanked, () -> x.yank(yanked, true), () -> model.yank(yanked, true));
    }

    private void solve() {
        String answer = same("solve", x::solve, model::solve);
        for (int pack = 0; pack < 8; pack++) {
            int at = pack;
            same("chosen " + pack, () -> x.chosen(at), () -> model.chosen(at));
        }
        if (answer.length() == 1) {
            sizes[Integer.parseInt(answer)]++;
        } else {
            unsolved++;
        }
    }

    private void feed(String text) {
        Checks.feed(x, text);
        for (int i = 0; i < text.length(); i++) {
            model.feed(text.charAt(i), 1);
        }
    }

    private String same(String what, Checks.Call call, Checks.Call due) {
        String wanted = Checks.answerOf(due);
        Checks.due("seed " + seed + ", " + what, wanted, call);
        return wanted;
    }
}
