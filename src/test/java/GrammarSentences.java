/** What the document says of the grammar of texts. */
final class GrammarSentences {
    private static final String[] SIGNS = {"^", "~", "=", ">", ">=", "<", "<="};

    private GrammarSentences() {
    }

    static void all(Sentences s) {
        String terms = "Terms";
        s.test(terms, "NUMBER: 0, or 1 to 9 digits of which the first is not 0.", GrammarSentences::numbers);
        s.test(terms, "WORD: one or more letters, digits and -.", GrammarSentences::words);
        s.test(terms, "VERSION: NUMBER . NUMBER . NUMBER, then perhaps - and words with points between",
                GrammarSentences::versions);
        s.test(terms, "(a word of digits alone must be a NUMBER)", GrammarSentences::digitsAlone);
        s.test(terms, ", then perhaps + and words with points between;", GrammarSentences::builds);
        s.test(terms, "at most 24 bytes.", GrammarSentences::atMost24);
        s.test(terms, "COMPARATOR: *, or NUMBER .*, or NUMBER . NUMBER .*,", GrammarSentences::stars);
        s.test(terms, "or perhaps a SIGN (^ ~ = > >= < <=; without one it is ^)", GrammarSentences::signs);
        s.test(terms, "and NUMBER, or NUMBER . NUMBER, or a VERSION without +.", GrammarSentences::behindSigns);
        s.test(terms, "REQUIREMENT: one to four comparators with a comma between;", GrammarSentences::oneToFour);
        s.test(terms, "blanks (32) may stand before and behind each.", GrammarSentences::blanks);
        s.test(terms, "PUBLICATION: a VERSION, then up to five times:", GrammarSentences::upToFive);
        s.test(terms, "a semicolon, the digit of a package, a blank, and a REQUIREMENT;", GrammarSentences::needs);
        s.test(terms, "no two of the same package", GrammarSentences::noTwo);
        s.test(terms, "(the published one itself may be among them).", GrammarSentences::itself);
        s.test(terms, "Nothing else may stand before, between and behind.", GrammarSentences::nothingElse);
    }

    private static void publishes(String... texts) {
        for (String text : texts) {
            GrammarTest.published(text, true);
        }
    }

    private static void doesNotPublish(String... texts) {
        for (String text : texts) {
            GrammarTest.published(text, false);
        }
    }

    private static void wants(String... texts) {
        for (String text : texts) {
            GrammarTest.wanted(text, true);
        }
    }

    private static void doesNotWant(String... texts) {
        for (String text : texts) {
            GrammarTest.wanted(text, false);
        }
    }

    private static void numbers() {
        for (String number : new String[] {"0", "1", "9", "10", "99999999", "100000000", "999999999"}) {
            publishes(number + ".0.0", "0." + number + ".0", "0.0." + number);
            wants(number, number + ".*", "0." + number, "0." + number + ".*", "0.0." + number, ">" + number);
        }
        // 2147483648, 4294967296 and 4294967297 would be small numbers, if they were to wrap around
        for (String number : new String[] {"", "00", "01", "09", "0000000001", "1000000000", "2147483647", "2147483648",
            "4294967296", "4294967297", "18446744073709551616", "-1", "+1", "a", "1a", "/", ":"}) {
            doesNotPublish(number + ".0.0", "0." + number + ".0", "0.0." + number + ";1 *");
            doesNotWant(number, number + ".*", "0." + number, "0." + number + ".*", "=" + number, "<" + number + ".0");
        }
    }

    private static void words() {
        for (char sign = 0; sign < 256; sign++) {
            boolean sound = sign == '-' || sign >= '0' && sign <= '9' || sign >= 'A' && sign <= 'Z'
                    || sign >= 'a' && sign <= 'z';
            GrammarTest.published("1.0.0-" + sign, sound);
            GrammarTest.published("1.0.0-a" + sign, sound);
            GrammarTest.published("1.0.0+" + sign, sound);
            GrammarTest.published("1.0.0+a" + sign + "a", sound || sign == '.');
        }
        publishes("1.0.0-a", "1.0.0--", "1.0.0-0", "1.0.0+a", "1.0.0+-", "1.0.0+0");
        doesNotPublish("1.0.0-", "1.0.0+", "1.0.0-a.", "1.0.0-.a", "1.0.0-a..a", "1.0.0+a.", "1.0.0+.a", "1.0.0+a..a");
        wants("1.0.0-a", "=1.0.0--", "<1.0.0-0");
        doesNotWant("1.0.0-", "=1.0.0-a.", "<1.0.0-.a", "~1.0.0-a..a");
    }

    private static void versions() {
        publishes("1.2.3", "1.2.3-a", "1.2.3-a.b", "1.2.3-a.b.c.d.e.f.g.h.i", "1.2.3--a", "1.2.3-a-b");
        doesNotPublish("", "1", "1.2", "1.2.", "1.2.-a", "1.2-a", "1-a", "1.2.3.", "1.2.3.4", "1.2.3.4-a", "1.2.3a",
                "1.2.3.a", "1..3", ".2.3", "1,2,3", "1.2.3-a,b", "1.2.3-a b", "1 .2.3", "1.2.*", "*", "^1.2.3", "=1.2.3");
    }

    private static void digitsAlone() {
        publishes("1.0.0-0", "1.0.0-1", "1.0.0-999999999", "1.0.0-a.0", "1.0.0-0.0.0", "1.0.0-00a", "1.0.0-01-",
                "1.0.0-1234567890a", "1.0.0--00", "1.0.0-a00");
        doesNotPublish("1.0.0-00", "1.0.0-01", "1.0.0-1000000000", "1.0.0-4294967296", "1.0.0-a.00", "1.0.0-00.a",
                "1.0.0-0.00", "1.0.0-a.01+a", "1.0.0-01+a");
        wants("1.0.0-0", "=1.0.0-999999999", ">1.0.0-00a");
        doesNotWant("1.0.0-00", "=1.0.0-01", ">1.0.0-1000000000", "<1.0.0-a.00", "1.0.0-01,*");
        // the rule stands with the words behind -, not with those behind +
        publishes("1.0.0+00", "1.0.0+01", "1.0.0+1000000000", "1.0.0-0+00.01");
    }

    private static void builds() {
        publishes("1.0.0+a", "1.0.0+a.b", "1.0.0+a-b", "1.0.0-a+b", "1.0.0-a.b+c.d", "1.0.0+a-b.c-d");
        doesNotPublish("1.0.0+", "1.0.0-a+", "1.0.0-+a", "1.0.0+a+b", "1.0.0+a.", "1.0.0+.b", "1.0.0+a b", "1.0+a", "1+a");
    }

    private static void atMost24() {
        publishes("999999999.999999999.9999", "1.0.0-aaaaaaaaaaaaaaaaaa", "1.0.0+aaaaaaaaaaaaaaaaaa",
                "1.0.0-aaaaaaaa+aaaaaaaaa", "1.0.0-a.a.a.a.a.a.a.a.aa", "1.0.0-aaaaaaaaaaaaaaaaaa;1 *");
        doesNotPublish("999999999.999999999.99999", "1.0.0-aaaaaaaaaaaaaaaaaaa", "1.0.0+aaaaaaaaaaaaaaaaaaa",
                "1.0.0-aaaaaaaaa+aaaaaaaaa", "1.0.0-a.a.a.a.a.a.a.a.a.a", "1.0.0-aaaaaaaaaaaaaaaaaaa;1 *",
                "999999999.999999999.999999999", "1.0.0-" + "a".repeat(154), "1.0.0+" + "a".repeat(154));
        wants("999999999.999999999.9999", "1.0.0-aaaaaaaaaaaaaaaaaa", ">=1.0.0-aaaaaaaaaaaaaaaaaa",
                "  1.0.0-aaaaaaaaaaaaaaaaaa  ", "1.0.0-aaaaaaaaaaaaaaaaaa,1.0.0-aaaaaaaaaaaaaaaaaa");
        doesNotWant("999999999.999999999.99999", "1.0.0-aaaaaaaaaaaaaaaaaaa", ">=1.0.0-aaaaaaaaaaaaaaaaaaa",
                "*,1.0.0-aaaaaaaaaaaaaaaaaaa", "1.0.0-" + "a".repeat(154));
    }

    private static void stars() {
        wants("*", "0.*", "1.*", "999999999.*", "0.0.*", "1.2.*", "999999999.999999999.*");
        doesNotWant("**", "*.*", "*.1", ".*", "1*", "1.2*", "1.*.*", "1.*.2", "1..*", "1.2.3.*", "1.2.3*", "1.2.3-*",
                "1.2.3-a.*", "1.*-a", "1.2.*-a", "1.* *", "01.*", "1.02.*", "1000000000.*", "1.1000000000.*");
        for (String sign : SIGNS) {
            doesNotWant(sign + "*", sign + "1.*", sign + "1.2.*");
        }
    }

    private static void signs() {
        for (String sign : SIGNS) {
            wants(sign + "1", sign + "1.2", sign + "1.2.3", sign + "1.2.3-a");
            doesNotWant(sign, sign + sign + "1", sign + " 1", " " + sign + " 1", "1" + sign, "1" + sign + "2", sign + ",1");
        }
        doesNotWant("=>1", "=<1", "==1", "<>1", "~>1", "^~1", "^=1", "> =1", "< =1", ">>1", "<<1", "!1", "!=1", "v1", "-1");
        VersionSolver x = Checks.registry("0 1.2.3", "0 1.9.9", "0 2.0.0", "0 0.1.0", "0 0.1.9", "0 0.2.0", "0 1.2.2");
        for (String text : new String[] {"1", "1.2", "1.2.3", "0", "0.1", "0.1.0"}) {
            for (int version = 0; version < 7; version++) {
                int at = version;
                Object due = Checks.meets(x, version, "^" + text);
                Checks.due(version + " meets " + text + " as it does ^" + text, due, () -> Checks.meets(x, at, text));
            }
        }
        Checks.due("1.2 is not ~1.2", true, () -> Checks.meets(x, 1, "1.2"));
        Checks.due("1.2 is not >=1.2", false, () -> Checks.meets(x, 2, "1.2"));
    }

    private static void behindSigns() {
        wants("1", "1.2", "1.2.3", "1.2.3-a", "1.2.3-a.b.0", "^1", "~1.2", "=1.2.3", ">=1.2.3-a");
        doesNotWant("", "1.", "1.2.", "1.2.3.", "1.2.3.4", ".1", "1..2", "1-a", "1.2-a", "1+a", "1.2+a", "1.2.3+a",
                "1.2.3-a+b", "=1.2.3+a", ">=1.2.3-a+b", "1.2.3+", "*,1.2.3+a", "1.2.3+a,*");
    }

    private static void oneToFour() {
        doesNotWant("", " ", ",", ",,,");
        wants("1", "1,2", "1,2,3", "1,2,3,4", "*,*,*,*", "<=1.2.3-a,>1.2,~1,1.2.*");
        doesNotWant("1,2,3,4,5", "*,*,*,*,*", "1,", ",1", "1,2,3,4,", ",1,2,3", "1,,2", "1, ,2", "1 2", "1;2", "1,2,3,x");
        publishes("1.0.0;1 1,2,3,4", "1.0.0;1 1,2,3,4;2 1,2,3,4");
        doesNotPublish("1.0.0;1 1,2,3,4,5", "1.0.0;1 1,2,3,4,", "1.0.0;1 ,1", "1.0.0;1 1,,2", "1.0.0;1 1,2,3,4,5;2 *");
    }

    private static void blanks() {
        wants(" 1", "1 ", "  1  ", " 1 , 2 ", "1 ,2", "1, 2", "1   ,   2   ,   3   ,   4   ", " * ", " 1.* ", " >=1.2.3-a ");
        wants(" ".repeat(159) + "1", "1" + " ".repeat(159), " ".repeat(79) + "1,1" + " ".repeat(78));
        doesNotWant(" ".repeat(160), "1 .2", "1. 2", "1 .*", "1. *", "> 1", "> =1", "1.2.3 -a", "1.2.3- a", "1.2.3-a .b", "1 0");
        for (char other : new char[] {0, 9, 10, 11, 12, 13, 31, 33, 127, 160, 255}) {
            doesNotWant(other + "1", "1" + other, "1," + other + "1", "1" + other + ",1");
        }
    }

    private static void upToFive() {
        String text = "1.0.0";
        publishes(text);
        for (int i = 0; i < 5; i++) {
            text += ";" + (7 - i) + " *";
            publishes(text);
        }
        doesNotPublish(text + ";2 *", text + ";2 *;1 *", text + ";", text + ";2", text + ";2 ");
    }

    private static void needs() {
        for (char digit = 0; digit < 256; digit++) {
            GrammarTest.published("1.0.0;" + digit + " *", digit >= '0' && digit <= '7');
            GrammarTest.published("1.0.0;1" + digit + "*", digit == ' ');
            GrammarTest.published("1.0.0" + digit + "1 *", digit == ';');
        }
        publishes("1.0.0;1  *", "1.0.0;1 * ", "1.0.0;1    1 ,  2  ;2  3  ");
        doesNotPublish("1.0.0;1*", "1.0.0; 1 *", "1.0.0;01 *", "1.0.0;10 *", "1.0.0; *", "1.0.0;*", "1.0.0;1", "1.0.0;1 ",
                "1.0.0;1  ", "1.0.0;", "1.0.0;;1 *", "1.0.0;1 *;", "1.0.0;1 *,2 *", "1.0.0;-1 *", "1.0.0;1 *;2", "1.0.0;1 x");
    }

    private static void noTwo() {
        for (int pack = 0; pack < 8; pack++) {
            String one = ";" + pack + " *";
            String other = ";" + (pack + 1) % 8 + " *";
            publishes("1.0.0" + one + other, "1.0.0" + other + one);
            doesNotPublish("1.0.0" + one + one, "1.0.0" + one + other + one, "1.0.0" + other + one + one,
                    "1.0.0" + one + ";" + pack + " 1", "1.0.0" + one + other + one + other);
        }
        doesNotPublish("1.0.0;0 *;1 *;2 *;3 *;0 *");
    }

    private static void itself() {
        for (int pack = 0; pack < 8; pack++) {
            int itself = pack;
            VersionSolver x = new VersionSolver();
            Checks.due("it alone", 0, () -> Checks.publish(x, itself, "1.0.0;" + itself + " *"));
            Checks.due("it first", 1, () -> Checks.publish(x, itself, "1.0.1;" + itself + " *;" + (itself + 1) % 8 + " *"));
            Checks.due("it last", 2, () -> Checks.publish(x, itself, "1.0.2;" + (itself + 1) % 8 + " *;" + itself + " 9"));
            Checks.due("it twice", Checks.ARGUMENT,
                    () -> Checks.publish(x, itself, "1.0.3;" + itself + " *;" + itself + " *"));
        }
    }

    private static void nothingElse() {
        for (char odd : new char[] {0, 9, 10, 13, ' ', '"', ',', ';', '=', 'v', 127, 128, 255}) {
            doesNotPublish(odd + "1.0.0", "1.0.0" + odd, odd + "1.0.0;1 *", "1." + odd + "0.0", "1.0.0;" + odd + "1 *");
            if (odd != ' ') {
                doesNotPublish("1.0.0;1 *" + odd, "1.0.0;1 " + odd + "*", "1.0.0;1 *" + odd + ";2 *");
                doesNotWant("*" + odd, odd + "*", odd + "*,*", "*" + odd + ",*");
            }
        }
        doesNotPublish("1.0.0;1 *" + " ".repeat(150) + "x", "1.0.0;1 *" + " ".repeat(150) + ";", " 1.0.0", "1.0.0 ",
                "1.0.0 ;1 *", "\n1.0.0", "1.0.0\n");
        publishes("1.0.0;1 *" + " ".repeat(151), "1.0.0;1 *" + " ".repeat(147) + ";2 *");
    }
}
