/** What promises 1, 3, 4 and 12 to 16 say: the registry, and what is asked of it. */
final class RegistrySentences {
    static final int[] NO_PACKS = {-1, 8, 9, -8, 256, Integer.MIN_VALUE, Integer.MAX_VALUE};

    private RegistrySentences() {
    }

    static void all(Sentences s) {
        s.test("Promise 1", "No versions, an empty root, lock and file, nothing chosen.", RegistrySentences::newObject);
        String publish = "Promise 3";
        s.test(publish, "The text is a PUBLICATION of a package: the version's number.", RegistrySentences::published);
        s.test(publish, "IndexOutOfBounds: there is no such package.", RegistrySentences::publishedNowhere);
        s.test(publish, "IllegalArgument: it is none.", RegistrySentences::noPublication);
        s.test(publish, "IllegalState: the package has a version of the same precedence.", RegistrySentences::publishedTwice);
        s.test(publish, "UnsupportedOperation: there are 40.", RegistrySentences::fullRegistry);
        String yank = "Promise 4";
        s.test(yank, "A version is yanked, or (on false) no longer: whether it was.", RegistrySentences::yank);
        s.test(yank, "IndexOutOfBounds: there is no such version.",
                () -> noVersions("yank", (x, none) -> x.yank(none, true), (x, none) -> x.yank(none, false)));
        String meets = "Promise 12";
        s.test(meets, "The text is a REQUIREMENT: whether a version meets it.", RegistrySentences::meets);
        s.test(meets, "IndexOutOfBounds: there is no such version.",
                () -> noVersions("meets", (x, none) -> Checks.meets(x, none, "*"), (x, none) -> Checks.meets(x, none, "")));
        s.test(meets, "IllegalArgument: it is none.", () -> noRequirements((x, text) -> Checks.meets(x, 0, text)));
        String best = "Promise 13";
        s.test(best, "The text is a REQUIREMENT: the version of a package, of highest precedence,"
                + " that meets it and is not yanked;", RegistrySentences::best);
        s.test(best, "NONE when there is none.", RegistrySentences::noBest);
        s.test(best, "IndexOutOfBounds: there is no such package.",
                () -> noPacks("best", (x, none) -> Checks.best(x, none, "*"), (x, none) -> Checks.best(x, none, "")));
        s.test(best, "IllegalArgument: it is none.", () -> noRequirements((x, text) -> Checks.best(x, 0, text)));
        String compare = "Promise 14";
        s.test(compare, "The precedence of two versions, of any packages: -1 the first is below, 0 the same, 1.",
                RegistrySentences::compare);
        s.test(compare, "IndexOutOfBounds: there are no such versions.",
                () -> noVersions("compare", (x, none) -> x.compare(none, 0), (x, none) -> x.compare(0, none)));
        String needs = "Promise 15";
        s.test(needs, "The package of a version's k-th requirement, from 0 on, in the order in which they were published;",
                RegistrySentences::needs);
        s.test(needs, "NONE when there is none.", RegistrySentences::noNeeds);
        s.test(needs, "IndexOutOfBounds: there is no such version.",
                () -> noVersions("needs", (x, none) -> x.needs(none, 0), (x, none) -> x.needs(none, -1)));
        String told = "Promise 16";
        s.test(told, "How many versions there are (what = 0),", RegistrySentences::toldVersions);
        s.test(told, "how many of them are yanked (1),", RegistrySentences::toldYanked);
        s.test(told, "requirements of the root (2),", RegistrySentences::toldRoot);
        s.test(told, "versions that the lock pins (3),", RegistrySentences::toldLock);
        s.test(told, "bytes of the text (4);", RegistrySentences::toldText);
        s.test(told, "NONE for another what.", RegistrySentences::toldNothing);
    }

    interface ByNumber {
        Object answer(VersionSolver x, int number);
    }

    interface ByText {
        Object answer(VersionSolver x, String text);
    }

    /** No such versions: in an empty registry, in one that has some, and in a full one. */
    static void noVersions(String what, ByNumber... calls) {
        for (ByNumber call : calls) {
            VersionSolver none = new VersionSolver();
            Checks.due(what + " 0 of none", Checks.INDEX, () -> call.answer(none, 0));
            VersionSolver some = Checks.registry("0 1.0.0", "7 2.0.0");
            VersionSolver full = Checks.full();
            for (int number : new int[] {-1, -2, 40, 41, 64, 256, Integer.MIN_VALUE, Integer.MAX_VALUE}) {
                Checks.due(what + " " + number + " of two", Checks.INDEX, () -> call.answer(some, number));
                Checks.due(what + " " + number + " of 40", Checks.INDEX, () -> call.answer(full, number));
            }
            Checks.due(what + " 2 of two", Checks.INDEX, () -> call.answer(some, 2));
            Checks.due(what + " 39 of two", Checks.INDEX, () -> call.answer(some, 39));
            Checks.publish(some, 3, "1.0.0");
            Checks.due(what + " 2 of three", false, () -> Checks.answerOf(() -> call.answer(some, 2)).equals(Checks.INDEX));
            Checks.due(what + " 3 of three", Checks.INDEX, () -> call.answer(some, 3));
            Checks.due(what + " 39 of 40", false, () -> Checks.answerOf(() -> call.answer(full, 39)).equals(Checks.INDEX));
        }
    }

    /** No such packages: with no versions, and with all of them. */
    static void noPacks(String what, ByNumber... calls) {
        for (ByNumber call : calls) {
            for (VersionSolver x : new VersionSolver[] {new VersionSolver(), Checks.full()}) {
                for (int none : NO_PACKS) {
                    Checks.due(what + " " + none, Checks.INDEX, () -> call.answer(x, none));
                }
                for (int pack : new int[] {0, 7}) {
                    Checks.due(what + " " + pack, false, () -> Checks.answerOf(() -> call.answer(x, pack)).equals(Checks.INDEX));
                }
            }
        }
    }

    /** What is no requirement: empty, too many comparators, and such that nearly are one. */
    static void noRequirements(ByText call) {
        VersionSolver x = Checks.registry("0 1.0.0");
        for (String text : new String[] {"", " ", ",", "1,", ",1", "1,2,3,4,5", "1.0.0+a", "1..0", "1.0.0.0", "01", "1000000000",
            "=>1", "=*", "1;1 *", "1.0.0;1 *", "1\n", "1.0.0-aaaaaaaaaaaaaaaaaaa", " ".repeat(160)}) {
            Checks.due("'" + text + "'", Checks.ARGUMENT, () -> call.answer(x, text));
        }
        for (String text : new String[] {"1", "1,2,3,4", "1.0.0", "999999999", "*", " 1 ", "1.0.0-aaaaaaaaaaaaaaaaaa"}) {
            Checks.due("'" + text + "'", false, () -> Checks.answerOf(() -> call.answer(x, text)).equals(Checks.ARGUMENT));
        }
    }

    private static void newObject() {
        VersionSolver x = new VersionSolver();
        for (int what = 0; what < 5; what++) {
            int at = what;
            Checks.due("told " + what, 0, () -> x.told(at));
        }
        for (int pack = 0; pack < 8; pack++) {
            int at = pack;
            Checks.due("chosen " + pack, VersionSolver.NONE, () -> x.chosen(at));
            Checks.due("best " + pack, VersionSolver.NONE, () -> Checks.best(x, at, "*"));
            Checks.due("drop " + pack, false, () -> x.drop(at));
        }
        Checks.due("yank", Checks.INDEX, () -> x.yank(0, true));
        Checks.due("fileByte", Checks.INDEX, () -> x.fileByte(0));
        Checks.due("write", 0, x::write);
        Checks.due("lock", 0, x::lock);
        Checks.due("unlock", 0, x::unlock);
        Checks.due("solve", 0, x::solve);
        VersionSolver other = Checks.registry("0 1.0.0");
        Checks.want(other, 0, "*");
        other.solve();
        other.lock();
        other.write();
        VersionSolver later = new VersionSolver();
        for (VersionSolver y : new VersionSolver[] {x, later}) {
            Checks.due("what another object has", "0 0 0 0 0", () -> Checks.told(y));
            Checks.due("chose", VersionSolver.NONE, () -> y.chosen(0));
            Checks.due("and wrote, is not here", Checks.INDEX, () -> y.fileByte(0));
        }
    }

    private static void published() {
        VersionSolver x = new VersionSolver();
        Checks.due("first", 0, () -> Checks.publish(x, 7, "9.0.0"));
        Checks.due("a lower one", 1, () -> Checks.publish(x, 7, "1.0.0"));
        Checks.due("of another package", 2, () -> Checks.publish(x, 0, "1.0.0"));
        Checks.due("with five requirements", 3, () -> Checks.publish(x, 0, "1.0.1;0 *;1 *;2 *;3 *;7 *"));
        x.yank(3, true);
        Checks.due("numbers are not used again", 4, () -> Checks.publish(x, 0, "1.0.2-a+b"));
        Checks.want(x, 7, "*");
        Checks.want(x, 0, "1.0.2-0");
        Checks.due("they are of their packages", "4 - - - - - - 0", () -> Checks.solved(x));
    }

    private static void publishedNowhere() {
        noPacks("publish", (x, pack) -> Checks.publish(x, pack, "9.0.0"), (x, pack) -> Checks.publish(x, pack, "9.0"));
    }

    private static void noPublication() {
        for (String text : new String[] {"", " ", "1", "1.0", "1.0.0 ", "1.0.0;", "1.0.0;8 *", "1.0.0;1 *;1 *", "1.0.0;1*",
            "1.0.0;0 *;1 *;2 *;3 *;4 *;5 *", "1.0.0;1 1,2,3,4,5", "1.0.0-aaaaaaaaaaaaaaaaaaa", "1000000000.0.0", "*", "^1.0.0"}) {
            VersionSolver x = new VersionSolver();
            Checks.due("'" + text + "'", Checks.ARGUMENT, () -> Checks.publish(x, 0, text));
            Checks.due("how many", 0, () -> x.told(0));
            Checks.due("the next number", 0, () -> Checks.publish(x, 0, "1.0.0;0 *;1 *;2 *;3 *;4 1,2,3,4"));
        }
    }

    private static void publishedTwice() {
        String[] pairs = {"1.0.0 1.0.0", "1.0.0 1.0.0+a", "1.0.0+a 1.0.0", "1.0.0+a 1.0.0+b", "1.0.0-a 1.0.0-a+a",
            "1.0.0-a.0 1.0.0-a.0", "0.0.0 0.0.0", "999999999.0.0 999999999.0.0+0"};
        for (String pair : pairs) {
            String first = pair.substring(0, pair.indexOf(' '));
            String second = pair.substring(pair.indexOf(' ') + 1);
            VersionSolver x = Checks.registry("1 " + first);
            Checks.due(second, Checks.STATE, () -> Checks.publish(x, 1, second));
            Checks.due("with other requirements", Checks.STATE, () -> Checks.publish(x, 1, second + ";1 *"));
            x.yank(0, true);
            Checks.due("though it is yanked", Checks.STATE, () -> Checks.publish(x, 1, second));
            Checks.due("of another package", 1, () -> Checks.publish(x, 0, second));
            Checks.due("how many", 2, () -> x.told(0));
        }
        VersionSolver x = Checks.registry("1 1.0.0-a");
        String[] others = {"1.0.0", "1.0.0-a.0", "1.0.0-A", "1.0.0-aa", "1.0.0-0", "1.0.1-a"};
        for (int i = 0; i < others.length; i++) {
            int at = i;
            Checks.due("another one, " + others[i], i + 1, () -> Checks.publish(x, 1, others[at]));
        }
        VersionSolver full = Checks.full();
        for (int i = 0; i < 40; i++) {
            int at = i;
            Checks.due("each of 40", Checks.STATE, () -> Checks.publish(full, at / 5, at % 5 + ".0.0"));
        }
    }

    private static void fullRegistry() {
        VersionSolver x = new VersionSolver();
        for (int i = 0; i < 40; i++) {
            int at = i;
            Checks.due("publish " + i, i, () -> Checks.publish(x, 2, at + ".0.0"));
        }
        for (int pack = 0; pack < 8; pack++) {
            int at = pack;
            Checks.due("one more in " + pack, Checks.UNSUPPORTED, () -> Checks.publish(x, at, "40.0.0"));
        }
        x.yank(0, true);
        Checks.due("a yanked one makes no room", Checks.UNSUPPORTED, () -> Checks.publish(x, 2, "40.0.0;1 *"));
        Checks.due("how many", 40, () -> x.told(0));
        Checks.due("the highest", 39, () -> Checks.best(x, 2, "*"));
    }

    private static void yank() {
        VersionSolver x = Checks.registry("0 1.0.0", "0 2.0.0");
        Checks.due("on", false, () -> x.yank(1, true));
        Checks.due("the best", 0, () -> Checks.best(x, 0, "*"));
        Checks.due("on again", true, () -> x.yank(1, true));
        Checks.due("still", 0, () -> Checks.best(x, 0, "*"));
        Checks.due("off", true, () -> x.yank(1, false));
        Checks.due("the best", 1, () -> Checks.best(x, 0, "*"));
        Checks.due("off again", false, () -> x.yank(1, false));
        Checks.due("still", 1, () -> Checks.best(x, 0, "*"));
        Checks.due("the other one was not", false, () -> x.yank(0, false));
    }

    private static void meets() {
        VersionSolver x = Checks.registry("0 1.0.0", "7 2.0.0");
        Checks.due("it does", true, () -> Checks.meets(x, 0, "1"));
        Checks.due("it does not", false, () -> Checks.meets(x, 1, "1"));
        x.yank(0, true);
        Checks.due("though it is yanked", true, () -> Checks.meets(x, 0, "1"));
        VersionSolver full = Checks.full();
        for (int i = 0; i < 40; i++) {
            int at = i;
            Checks.due("each of 40", i % 5 == 4, () -> Checks.meets(full, at, ">3"));
        }
    }

    private static void best() {
        VersionSolver x = Checks.registry("0 1.0.0", "0 1.10.0", "0 1.9.0", "0 2.0.0-a", "1 1.11.0", "0 1.2.0");
        Checks.due("the highest", 1, () -> Checks.best(x, 0, "*"));
        Checks.due("the highest that meets it", 2, () -> Checks.best(x, 0, "<1.10"));
        Checks.due("with words", 3, () -> Checks.best(x, 0, "<=2.0.0-z"));
        Checks.due("of its package", 4, () -> Checks.best(x, 1, "*"));
        x.yank(1, true);
        Checks.due("not yanked", 2, () -> Checks.best(x, 0, "*"));
        x.pin(1);
        Checks.due("a pin does not count", 2, () -> Checks.best(x, 0, "*"));
        x.pin(0);
        Checks.due("nor here", 2, () -> Checks.best(x, 0, "*"));
        VersionSolver full = Checks.full();
        Checks.due("the first of 40", 0, () -> Checks.best(full, 0, "0"));
        Checks.due("the last of 40", 39, () -> Checks.best(full, 7, "*"));
    }

    private static void noBest() {
        VersionSolver x = new VersionSolver();
        Checks.due("no versions", VersionSolver.NONE, () -> Checks.best(x, 0, "*"));
        Checks.publish(x, 0, "1.0.0");
        Checks.publish(x, 0, "1.0.1-a");
        Checks.due("none in another package", VersionSolver.NONE, () -> Checks.best(x, 1, "*"));
        Checks.due("none that meets it", VersionSolver.NONE, () -> Checks.best(x, 0, ">1.0.0"));
        Checks.due("one", 0, () -> Checks.best(x, 0, "*"));
        x.yank(0, true);
        Checks.due("none that is not yanked", VersionSolver.NONE, () -> Checks.best(x, 0, "*"));
        x.pin(0);
        Checks.due("pinned or not", VersionSolver.NONE, () -> Checks.best(x, 0, "*"));
    }

    private static void compare() {
        VersionSolver x = Checks.registry("0 1.0.0", "7 1.0.0+a", "7 999999999.0.0", "3 0.0.0-0");
        Checks.due("with itself", 0, () -> x.compare(0, 0));
        Checks.due("the same of another package", 0, () -> x.compare(0, 1));
        Checks.due("far below", -1, () -> x.compare(3, 2));
        Checks.due("far above", 1, () -> x.compare(2, 3));
        Checks.due("below", -1, () -> x.compare(0, 2));
        Checks.due("above", 1, () -> x.compare(1, 3));
        VersionSolver words = Checks.registry("0 1.0.0-a", "1 1.0.0-z", "2 1.0.0-a.b.c.d", "3 1.0.0-999999999", "4 1.0.0-0");
        Checks.due("one byte far below", -1, () -> words.compare(0, 1));
        Checks.due("one byte far above", 1, () -> words.compare(1, 0));
        Checks.due("three words less", -1, () -> words.compare(0, 2));
        Checks.due("three words more", 1, () -> words.compare(2, 0));
        Checks.due("a number far above", 1, () -> words.compare(3, 4));
        Checks.due("a number far below", -1, () -> words.compare(4, 3));
    }

    private static void needs() {
        VersionSolver x = Checks.registry("2 1.0.0;7 *;2 1;0 ~1,<2;5 =1;1 >1", "0 1.0.0;0 *");
        int[] due = {7, 2, 0, 5, 1};
        for (int k = 0; k < due.length; k++) {
            int at = k;
            Checks.due("needs " + k, due[k], () -> x.needs(0, at));
        }
        Checks.due("of itself", 0, () -> x.needs(1, 0));
        Checks.publish(x, 2, "1.0.1;1 *;2 *");
        Checks.due("of another version", 1, () -> x.needs(2, 0));
        Checks.due("the first stays", 7, () -> x.needs(0, 0));
    }

    private static void noNeeds() {
        VersionSolver x = Checks.registry("2 1.0.0;7 *;2 1;0 ~1,<2;5 =1;1 >1", "0 1.0.0;0 *", "0 2.0.0");
        for (int version = 0; version < 3; version++) {
            int at = version;
            for (int k : new int[] {-1, 5, 6, 8, Integer.MIN_VALUE, Integer.MAX_VALUE}) {
                Checks.due("needs " + version + " " + k, VersionSolver.NONE, () -> x.needs(at, k));
            }
        }
        Checks.due("the fifth", 1, () -> x.needs(0, 4));
        Checks.due("one behind the first", VersionSolver.NONE, () -> x.needs(1, 1));
        Checks.due("the first of none", VersionSolver.NONE, () -> x.needs(2, 0));
    }

    private static void toldVersions() {
        VersionSolver x = new VersionSolver();
        Checks.due("none", 0, () -> x.told(0));
        for (int i = 0; i < 40; i++) {
            int at = i;
            Checks.publish(x, i % 8, i + ".0.0");
            Checks.due("so many", i + 1, () -> x.told(0));
            Checks.answerOf(() -> Checks.publish(x, at % 8, at + ".0.0"));
        }
        Checks.answerOf(() -> Checks.publish(x, 0, "99.0.0"));
        x.yank(0, true);
        Checks.due("40, yanked ones too", 40, () -> x.told(0));
    }

    private static void toldYanked() {
        VersionSolver x = Checks.full();
        Checks.due("none", 0, () -> x.told(1));
        for (int i = 0; i < 40; i++) {
            x.yank(i, true);
        }
        Checks.due("all", 40, () -> x.told(1));
        x.yank(0, true);
        Checks.due("none twice", 40, () -> x.told(1));
        x.yank(39, false);
        x.yank(39, false);
        Checks.due("one less", 39, () -> x.told(1));
        Checks.answerOf(() -> x.yank(40, false));
        Checks.due("as many", 39, () -> x.told(1));
    }

    private static void toldRoot() {
        VersionSolver x = new VersionSolver();
        Checks.due("none", 0, () -> x.told(2));
        for (int pack = 0; pack < 8; pack++) {
            Checks.want(x, pack, "*");
            Checks.want(x, pack, "1");
            Checks.due("so many", pack + 1, () -> x.told(2));
        }
        x.drop(3);
        x.drop(3);
        Checks.due("one less", 7, () -> x.told(2));
        Checks.answerOf(() -> Checks.want(x, 3, "?"));
        Checks.answerOf(() -> x.drop(8));
        Checks.due("as many", 7, () -> x.told(2));
    }

    private static void toldLock() {
        VersionSolver x = Checks.full();
        Checks.due("none", 0, () -> x.told(3));
        for (int i = 39; i >= 0; i--) {
            x.pin(i);
        }
        Checks.due("all packages", 8, () -> x.told(3));
        x.lock();
        Checks.due("nothing was chosen", 0, () -> x.told(3));
        Checks.want(x, 5, "*");
        x.solve();
        Checks.due("not before it is locked", 0, () -> x.told(3));
        x.lock();
        Checks.due("what was chosen", 1, () -> x.told(3));
        x.unlock();
        Checks.due("none", 0, () -> x.told(3));
    }

    private static void toldText() {
        VersionSolver x = new VersionSolver();
        Checks.due("none", 0, () -> x.told(4));
        for (int i = 1; i <= 160; i++) {
            x.feed('1', 1);
            Checks.due("so many", i, () -> x.told(4));
        }
        Checks.answerOf(() -> x.feed('1', 1));
        Checks.due("the most", 160, () -> x.told(4));
        Checks.answerOf(() -> x.best(0));
        Checks.due("used up", 0, () -> x.told(4));
    }

    private static void toldNothing() {
        VersionSolver x = Checks.full();
        for (int what : new int[] {-1, 5, 6, 8, 256, Integer.MIN_VALUE, Integer.MAX_VALUE}) {
            Checks.due("told " + what, VersionSolver.NONE, () -> x.told(what));
        }
    }
}
