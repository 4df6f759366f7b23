/** What the document says of the precedence of versions. */
final class PrecedenceSentences {
    private PrecedenceSentences() {
    }

    static void all(Sentences s) {
        String terms = "Terms";
        s.test(terms, "PRECEDENCE of versions: by the first, the second, the third number;", () -> {
            rising("0.999999999.0", "1.0.0", "1.0.999999999", "1.1.0", "1.1.1", "1.1.2", "1.1.10", "1.2.0", "2.0.0",
                    "10.0.0", "999999998.1.1", "999999999.0.0");
            rising("0.0.0", "0.0.1", "0.1.0", "1.0.0");
            rising("1.9.9", "2.1.1-a", "2.1.2-0", "2.2.0-0", "3.0.0-0");
        });
        s.test(terms, "then one with words behind - is below one without;", () -> {
            rising("1.0.0-0", "1.0.0");
            rising("0.0.0-zzz.zzz", "0.0.0");
            rising("1.0.0", "1.0.1-0", "1.0.1", "1.0.2-0");
            rising("1.0.0--", "1.0.0+-");
        });
        s.test(terms, "else by these words one by one:", () -> {
            rising("1.0.0-a.a.b", "1.0.0-a.b.a", "1.0.0-b.a.a");
            rising("1.0.0-a.z.z", "1.0.0-b");
            rising("1.0.0-1.9", "1.0.0-2.1");
        });
        s.test(terms, "two of digits alone by their number,", () -> {
            rising("1.0.0-0", "1.0.0-1", "1.0.0-2", "1.0.0-9", "1.0.0-10", "1.0.0-11", "1.0.0-100", "1.0.0-999999998",
                    "1.0.0-999999999");
            rising("1.0.0-a.2", "1.0.0-a.10");
        });
        s.test(terms, "such a one below any other,", () -> {
            rising("1.0.0-0", "1.0.0--");
            rising("1.0.0-999999999", "1.0.0--", "1.0.0-0a", "1.0.0-A", "1.0.0-a");
            rising("1.0.0-9", "1.0.0-0-");
            rising("1.0.0-a.9.z", "1.0.0-a.-");
        });
        s.test(terms, "others by their bytes", () -> {
            rising("1.0.0--", "1.0.0-0a", "1.0.0-9a", "1.0.0-A", "1.0.0-Z", "1.0.0-a", "1.0.0-z");
            rising("1.0.0-10a", "1.0.0-2a");
            rising("1.0.0-aAa", "1.0.0-aaA");
            rising("1.0.0-zzzzA", "1.0.0-zzzza");
        });
        s.test(terms, "(a beginning of another one is below it);", () -> {
            rising("1.0.0-a", "1.0.0-a-", "1.0.0-a0", "1.0.0-aa", "1.0.0-aaa");
            rising("1.0.0-a.z.z", "1.0.0-aa");
            rising("1.0.0--", "1.0.0---", "1.0.0----");
            rising("1.0.0-a.b", "1.0.0-a.bb.a");
        });
        s.test(terms, "who has no more of them is below.", () -> {
            rising("1.0.0-a", "1.0.0-a.0", "1.0.0-a.0.0", "1.0.0-a.a", "1.0.0-a.a.a");
            rising("1.0.0-1", "1.0.0-1.0", "1.0.0-1.a");
            rising("1.0.0-0", "1.0.0-0.0", "1.0.0-0.0.0", "1.0.0");
        });
        s.test(terms, "What is behind + does not count.", PrecedenceSentences::builds);
    }

    private static void builds() {
        VersionSolver x = Checks.registry("0 1.0.0", "1 1.0.0+a", "2 1.0.0+b.c", "3 1.0.0+0", "4 1.0.0+00");
        VersionSolver y = Checks.registry("0 1.0.0-a.1", "1 1.0.0-a.1+a", "2 1.0.0-a.1+b.c", "3 1.0.0-a.1+-", "4 1.0.0-a.1+1");
        for (int i = 0; i < 25; i++) {
            int first = i / 5;
            int second = i % 5;
            Checks.due("compare " + first + " " + second, 0, () -> x.compare(first, second));
            Checks.due("with words " + first + " " + second, 0, () -> y.compare(first, second));
        }
        rising("1.0.0-a+z", "1.0.0-b+a", "1.0.0+0", "1.0.1-0+0", "1.0.1");
    }

    /** Each of these is below all behind it; in one package, and in several. */
    private static void rising(String... versions) {
        for (int packs : new int[] {1, 3}) {
            VersionSolver x = new VersionSolver();
            for (int i = 0; i < versions.length; i++) {
                Checks.publish(x, i % packs, versions[i]);
            }
            for (int a = 0; a < versions.length; a++) {
                for (int b = 0; b < versions.length; b++) {
                    int first = a;
                    int second = b;
                    Checks.due("compare " + versions[a] + " with " + versions[b], Integer.compare(a, b),
                            () -> x.compare(first, second));
                }
            }
        }
    }
}
