/** The grammar: every short text of the signs that it has, alone and behind sound beginnings, as by the Model. */
public final class ShortTextsTest {
    private static final String SIGNS = " .,;*^~=><+-019aZ";
    private static final String[] BEGINNINGS_OF_REQUIREMENTS = {"", "1.0", "1.0.0-", "*,1,2"};
    private static final String[] BEGINNINGS_OF_PUBLICATIONS = {"1.0", "1.0.0", "1.0.0-a", "1.0.0;1 1"};
    /** Far below the 512 calls that an object is used for. */
    private static final int TEXTS_OF_AN_OBJECT = 40;

    private final int most;
    private VersionSolver x = new VersionSolver();
    private int texts = 0;
    private int sound = 0;

    private ShortTextsTest(int most) {
        this.most = most;
    }

    public static void main(String[] args) {
        ShortTextsTest test = new ShortTextsTest(args.length > 0 ? Integer.parseInt(args[0]) : 3);
        for (String beginning : BEGINNINGS_OF_REQUIREMENTS) {
            test.allBehind(beginning, 0, true);
        }
        for (String beginning : BEGINNINGS_OF_PUBLICATIONS) {
            test.allBehind(beginning, 0, false);
        }
        System.out.println("ShortTextsTest: " + test.texts + " texts, " + test.sound + " of them sound");
        Checks.end("ShortTextsTest");
    }

    private void allBehind(String beginning, int added, boolean asRequirement) {
        look(beginning, asRequirement);
        for (int i = 0; added < most && i < SIGNS.length(); i++) {
            allBehind(beginning + SIGNS.charAt(i), added + 1, asRequirement);
        }
    }

    private void look(String text, boolean asRequirement) {
        boolean due = asRequirement ? Model.Requirement.of(text) != null : Model.Release.of(0, text) != null;
        if (texts++ % TEXTS_OF_AN_OBJECT == 0) {
            x = new VersionSolver();
        }
        if (due) {
            sound++;
        }
        Checks.due((asRequirement ? "requirement '" : "publication '") + text + "'", due,
                () -> asRequirement ? isRequirement(text) : isPublication(text));
    }

    private boolean isRequirement(String text) {
        return !Checks.answerOf(() -> Checks.best(x, 0, text)).equals(Checks.ARGUMENT);
    }

    private boolean isPublication(String text) {
        return !Checks.answerOf(() -> Checks.publish(x, 0, text)).equals(Checks.ARGUMENT);
    }
}
