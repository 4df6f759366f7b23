import java.math.BigInteger;
import java.util.ArrayList;
import java.util.Arrays;
import java.util.List;
import java.util.regex.Matcher;
import java.util.regex.Pattern;

/**
 * The document a second time, written with no thought of speed and as near to its words as
 * can be: grammar by patterns, solutions by looking at every choice. Calls answer as in
 * VersionSolver, and throw the same.
 */
final class Model {
    private static final String NUMBER = "(?:0|[1-9][0-9]{0,8})";
    private static final String WORD = "[A-Za-z0-9-]+";
    private static final String PRE_WORD = "(?:" + NUMBER + "|(?![0-9]+(?![A-Za-z0-9-]))" + WORD + ")";
    private static final Pattern VERSION = Pattern.compile("(" + NUMBER + ")\\.(" + NUMBER + ")\\.(" + NUMBER + ")"
            + "(?:-(" + PRE_WORD + "(?:\\." + PRE_WORD + ")*))?(\\+" + WORD + "(?:\\." + WORD + ")*)?");
    private static final Pattern STAR = Pattern.compile("(" + NUMBER + ")(?:\\.(" + NUMBER + "))?\\.\\*");
    private static final Pattern PART = Pattern.compile("(" + NUMBER + ")(?:\\.(" + NUMBER + "))?");
    private static final Pattern SIGN = Pattern.compile("(>=|<=|[\\^~=><]|)(.*)", Pattern.DOTALL);

    static final class Version {
        BigInteger[] numbers = new BigInteger[3];
        String[] words = {};
        String written;

        static Version of(String text) {
            Matcher m = VERSION.matcher(text);
            if (!m.matches() || text.length() > 24) {
                return null;
            }
            Version v = new Version();
            v.written = text;
            for (int i = 0; i < 3; i++) {
                v.numbers[i] = new BigInteger(m.group(i + 1));
            }
            if (m.group(4) != null) {
                v.words = m.group(4).split("\\.", -1);
            }
            return v;
        }

        static Version of(BigInteger a, BigInteger b, BigInteger c) {
            Version v = new Version();
            v.numbers = new BigInteger[] {a, b, c};
            return v;
        }

        int precedence(Version other) {
            for (int i = 0; i < 3; i++) {
                int c = numbers[i].compareTo(other.numbers[i]);
                if (c != 0) {
                    return c;
                }
            }
            if (words.length == 0 || other.words.length == 0) {
                return (words.length == 0 ? 1 : 0) - (other.words.length == 0 ? 1 : 0);
            }
            for (int i = 0; i < Math.min(words.length, other.words.length); i++) {
                int c = wordOrder(words[i], other.words[i]);
                if (c != 0) {
                    return c < 0 ? -1 : 1;
                }
            }
            return Integer.compare(words.length, other.words.length);
        }

        private static int wordOrder(String a, String b) {
            boolean digitsA = a.matches("[0-9]+");
            boolean digitsB = b.matches("[0-9]+");
            if (digitsA && digitsB) {
                return new BigInteger(a).compareTo(new BigInteger(b));
            }
            return digitsA ? -1 : digitsB ? 1 : a.compareTo(b);
        }
    }

    /** Bounds as in the document's words: from on, above, below, up to; null where there is none. */
    static final class Comparator {
        Version from;
        Version above;
        Version below;
        Version upTo;
        Version withWords;

        boolean met(Version v) {
            return (from == null || v.precedence(from) >= 0) && (above == null || v.precedence(above) > 0)
                    && (below == null || v.precedence(below) < 0) && (upTo == null || v.precedence(upTo) <= 0);
        }

        static Comparator of(String text) {
            Comparator c = new Comparator();
            if (text.equals("*")) {
                return c;
            }
            Matcher star = STAR.matcher(text);
            if (star.matches()) {
                return ofPart("~", star);
            }
            Matcher m = SIGN.matcher(text);
            m.matches();
            String sign = m.group(1).isEmpty() ? "^" : m.group(1);
            Matcher part = PART.matcher(m.group(2));
            if (part.matches()) {
                return ofPart(sign, part);
            }
            Version v = Version.of(m.group(2));
            if (v == null || m.group(2).contains("+")) {
                return null;
            }
            return ofWhole(sign, v);
        }

        private static Comparator ofPart(String sign, Matcher m) {
            BigInteger zero = BigInteger.ZERO;
            BigInteger one = BigInteger.ONE;
            BigInteger a = new BigInteger(m.group(1));
            BigInteger b = m.group(2) == null ? null : new BigInteger(m.group(2));
            Version first = Version.of(a, b == null ? zero : b, zero);
            Version behind = b == null ? Version.of(a.add(one), zero, zero) : Version.of(a, b.add(one), zero);
            Comparator c = new Comparator();
            switch (sign) {
                case "^" -> {
                    c.from = first;
                    c.below = b == null || a.signum() == 0 ? behind : Version.of(a.add(one), zero, zero);
                }
                case "~", "=" -> {
                    c.from = first;
                    c.below = behind;
                }
                case ">=" -> c.from = first;
                case ">" -> c.from = behind;
                case "<" -> c.below = first;
                default -> c.below = behind;
            }
            return c;
        }

        private static Comparator ofWhole(String sign, Version v) {
            BigInteger zero = BigInteger.ZERO;
            BigInteger one = BigInteger.ONE;
            BigInteger[] n = v.numbers;
            Comparator c = new Comparator();
            c.withWords = v.words.length == 0 ? null : v;
            switch (sign) {
                case "^" -> {
                    c.from = v;
                    c.below = Version.of(n[0].add(one), zero, zero);
                    if (n[0].signum() == 0) {
                        c.below = Version.of(zero, n[1].add(one), zero);
                        if (n[1].signum() == 0) {
                            c.below = Version.of(zero, zero, n[2].add(one));
                        }
                    }
                }
                case "~" -> {
                    c.from = v;
                    c.below = Version.of(n[0], n[1].add(one), zero);
                }
                case "=" -> {
                    c.from = v;
                    c.upTo = v;
                }
                case ">" -> c.above = v;
                case ">=" -> c.from = v;
                case "<" -> c.below = v;
                default -> c.upTo = v;
            }
            return c;
        }
    }

    static final class Requirement {
        final List<Comparator> comparators = new ArrayList<>();

        static Requirement of(String text) {
            String[] parts = text.split(",", -1);
            Requirement r = new Requirement();
            for (String part : parts) {
                Comparator c = Comparator.of(part.replaceAll("^ +| +$", ""));
                if (c == null) {
                    return null;
                }
                r.comparators.add(c);
            }
            return parts.length > 4 ? null : r;
        }

        boolean met(Version v) {
            boolean named = v.words.length == 0;
            for (Comparator c : comparators) {
                if (!c.met(v)) {
                    return false;
                }
                named |= c.withWords != null && Arrays.equals(c.withWords.numbers, v.numbers);
            }
            return named;
        }
    }

    static final class Release {
        int pack;
        Version version;
        final List<Integer> needs = new ArrayList<>();
        final List<Requirement> requirements = new ArrayList<>();
        boolean yanked;

        static Release of(int pack, String text) {
            String[] parts = text.split(";", -1);
            Release r = new Release();
            r.pack = pack;
            r.version = Version.of(parts[0]);
            if (r.version == null || parts.length > 6) {
                return null;
            }
            for (int i = 1; i < parts.length; i++) {
                if (!parts[i].matches("(?s)[0-7] .*")) {
                    return null;
                }
                int on = parts[i].charAt(0) - '0';
                Requirement requirement = Requirement.of(parts[i].substring(2));
                if (requirement == null || r.needs.contains(on)) {
                    return null;
                }
                r.needs.add(on);
                r.requirements.add(requirement);
            }
            return r;
        }
    }

    private final StringBuilder text = new StringBuilder();
    private final List<Release> releases = new ArrayList<>();
    private final Requirement[] root = new Requirement[8];
    private final Integer[] pins = new Integer[8];
    private Integer[] choice = new Integer[8];
    private String file = "";

    private static void check(boolean sound, RuntimeException otherwise) {
        if (!sound) {
            throw otherwise;
        }
    }

    private static void checkPack(int pack) {
        check(pack >= 0 && pack <= 7, new IndexOutOfBoundsException());
    }

    private void checkVersion(int version) {
        check(version >= 0 && version < releases.size(), new IndexOutOfBoundsException());
    }

    private String useUp() {
        String all = text.toString();
        text.setLength(0);
        return all;
    }

    int feed(long bytes, int n) {
        check(n >= 1 && n <= 8, new IllegalArgumentException());
        check(text.length() + n <= 160, new IllegalStateException());
        for (int i = 0; i < n; i++) {
            text.append((char) (bytes >> 8 * i & 255));
        }
        return text.length();
    }

    int publish(int pack) {
        String all = useUp();
        checkPack(pack);
        Release release = Release.of(pack, all);
        check(release != null, new IllegalArgumentException());
        for (Release r : releases) {
            check(r.pack != pack || r.version.precedence(release.version) != 0, new IllegalStateException());
        }
        check(releases.size() < 40, new UnsupportedOperationException());
        releases.add(release);
        return releases.size() - 1;
    }

    boolean yank(int version, boolean on) {
        checkVersion(version);
        boolean was = releases.get(version).yanked;
        releases.get(version).yanked = on;
        return was;
    }

    private Requirement readRequirement(String all) {
        Requirement r = Requirement.of(all);
        check(r != null, new IllegalArgumentException());
        return r;
    }

    Object want(int pack) {
        String all = useUp();
        checkPack(pack);
        root[pack] = readRequirement(all);
        return null;
    }

    boolean drop(int pack) {
        checkPack(pack);
        boolean had = root[pack] != null;
        root[pack] = null;
        return had;
    }

    int solve() {
        Integer[] first = firstFrom(0, new Integer[8]);
        check(first != null, new IllegalStateException());
        choice = first;
        return count(choice);
    }

    /** How many choices solve() may have to look at. */
    long choices() {
        long all = 1;
        for (int pack = 0; pack < 8; pack++) {
            all *= optionsOf(pack).size();
        }
        return all;
    }

    private Integer[] firstFrom(int pack, Integer[] given) {
        if (pack == 8) {
            return isSolution(given) ? given.clone() : null;
        }
        for (Integer option : optionsOf(pack)) {
            given[pack] = option;
            Integer[] first = firstFrom(pack + 1, given);
            if (first != null) {
                return first;
            }
        }
        given[pack] = null;
        return null;
    }

    /** In their order: none, the pinned version, the others from high to low. */
    private List<Integer> optionsOf(int pack) {
        List<Integer> options = new ArrayList<>();
        for (int i = 0; i < releases.size(); i++) {
            if (releases.get(i).pack == pack) {
                options.add(i);
            }
        }
        options.sort((a, b) -> releases.get(b).version.precedence(releases.get(a).version));
        if (pins[pack] != null) {
            options.remove(pins[pack]);
            options.add(0, pins[pack]);
        }
        options.add(0, null);
        return options;
    }

    private boolean isSolution(Integer[] given) {
        boolean[] reached = new boolean[8];
        for (int pack = 0; pack < 8; pack++) {
            reached[pack] = root[pack] != null;
            if (given[pack] != null && releases.get(given[pack]).yanked && !given[pack].equals(pins[pack])) {
                return false;
            }
            if (root[pack] != null && (given[pack] == null || !root[pack].met(releases.get(given[pack]).version))) {
                return false;
            }
            if (given[pack] != null && !holdsAll(releases.get(given[pack]), given)) {
                return false;
            }
        }
        for (int round = 0; round < 8; round++) {
            for (int pack = 0; pack < 8; pack++) {
                if (reached[pack] && given[pack] != null) {
                    releases.get(given[pack]).needs.forEach(p -> reached[p] = true);
                }
            }
        }
        for (int pack = 0; pack < 8; pack++) {
            if (given[pack] != null && !reached[pack]) {
                return false;
            }
        }
        return true;
    }

    private boolean holdsAll(Release release, Integer[] given) {
        for (int k = 0; k < release.needs.size(); k++) {
            Integer other = given[release.needs.get(k)];
            if (other == null || !release.requirements.get(k).met(releases.get(other).version)) {
                return false;
            }
        }
        return true;
    }

    private static int count(Integer[] versions) {
        int count = 0;
        for (Integer version : versions) {
            count += version == null ? 0 : 1;
        }
        return count;
    }

    private static int number(Integer version) {
        return version == null ? -1 : version;
    }

    int chosen(int pack) {
        checkPack(pack);
        return number(choice[pack]);
    }

    int lock() {
        System.arraycopy(choice, 0, pins, 0, 8);
        return count(pins);
    }

    int pin(int version) {
        checkVersion(version);
        int pack = releases.get(version).pack;
        int before = number(pins[pack]);
        pins[pack] = version;
        return before;
    }

    int unlock() {
        int count = count(pins);
        Arrays.fill(pins, null);
        return count;
    }

    boolean meets(int version) {
        String all = useUp();
        checkVersion(version);
        return readRequirement(all).met(releases.get(version).version);
    }

    int best(int pack) {
        String all = useUp();
        checkPack(pack);
        Requirement r = readRequirement(all);
        Integer best = null;
        for (int i = 0; i < releases.size(); i++) {
            Release release = releases.get(i);
            if (release.pack == pack && !release.yanked && r.met(release.version)
                    && (best == null || release.version.precedence(releases.get(best).version) > 0)) {
                best = i;
            }
        }
        return number(best);
    }

    int compare(int version, int other) {
        checkVersion(version);
        checkVersion(other);
        return releases.get(version).version.precedence(releases.get(other).version);
    }

    int needs(int version, int k) {
        checkVersion(version);
        List<Integer> needs = releases.get(version).needs;
        return k < 0 || k >= needs.size() ? -1 : needs.get(k);
    }

    int told(int what) {
        return switch (what) {
            case 0 -> releases.size();
            case 1 -> (int) releases.stream().filter(r -> r.yanked).count();
            case 2 -> (int) Arrays.stream(root).filter(r -> r != null).count();
            case 3 -> count(pins);
            case 4 -> text.length();
            default -> -1;
        };
    }

    int write() {
        StringBuilder all = new StringBuilder();
        for (int pack = 0; pack < 8; pack++) {
            if (choice[pack] != null) {
                all.append(pack).append(' ').append(releases.get(choice[pack]).version.written).append('\n');
            }
        }
        file = all.toString();
        return file.length();
    }

    int fileByte(int i) {
        check(i >= 0 && i < file.length(), new IndexOutOfBoundsException());
        return file.charAt(i);
    }
}
