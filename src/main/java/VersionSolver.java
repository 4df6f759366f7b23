import java.util.Arrays;

/**
 * A registry of packages whose versions never change once they are published, and a solver
 * that finds for a root the one choice of versions that comes first.
 */
public final class VersionSolver {
    public static final int NONE = -1;

    private static final int PACKS = 8;
    private static final int MOST_RELEASES = 40;
    private static final int MOST_TEXT_BYTES = 160;
    private static final int MOST_FEED_BYTES = 8;
    private static final int MOST_VERSION_BYTES = 24;
    private static final int MOST_NUMBER_DIGITS = 9;
    private static final int MOST_COMPARATORS = 4;
    private static final int MOST_NEEDS = 5;
    /** A line of the file has a digit, a blank and a line end beside its version. */
    private static final int MOST_FILE_BYTES = PACKS * (MOST_VERSION_BYTES + 3);
    private static final char LINE_END = 10;

    private final Bytes text;
    private final Bytes file;
    private final Registry registry;
    private final Search search;
    private final Requirement[] root;
    private final int[] pins;
    private final int[] choice;

    public VersionSolver() {
        text = new Bytes(MOST_TEXT_BYTES);
        file = new Bytes(MOST_FILE_BYTES);
        registry = new Registry();
        search = new Search(registry);
        root = new Requirement[PACKS];
        pins = new int[PACKS];
        choice = new int[PACKS];
        Arrays.fill(pins, NONE);
        Arrays.fill(choice, NONE);
    }

    public int feed(long bytes, int n) throws IllegalArgumentException, IllegalStateException {
        if (n < 1 || n > MOST_FEED_BYTES) {
            throw new IllegalArgumentException();
        }
        if (text.length + n > MOST_TEXT_BYTES) {
            throw new IllegalStateException();
        }
        for (int i = 0; i < n; i++) {
            text.append((byte) (bytes >>> (8 * i)));
        }
        return text.length;
    }

    public int publish(int pack) throws IndexOutOfBoundsException, IllegalArgumentException,
            IllegalStateException, UnsupportedOperationException {
        Reader reader = useUpText();
        if (!isPack(pack)) {
            throw new IndexOutOfBoundsException();
        }
        Release release = reader.publication(pack);
        if (release == null) {
            throw new IllegalArgumentException();
        }
        if (registry.hasSame(release)) {
            throw new IllegalStateException();
        }
        if (registry.isFull()) {
            throw new UnsupportedOperationException();
        }
        int version = registry.add(release);
        search.learn(version, release);
        return version;
    }

    public boolean yank(int version, boolean on) throws IndexOutOfBoundsException {
        Release release = registry.at(version);
        if (release == null) {
            throw new IndexOutOfBoundsException();
        }
        boolean was = release.yanked;
        release.yanked = on;
        return was;
    }

    public void want(int pack) throws IndexOutOfBoundsException, IllegalArgumentException {
        Reader reader = useUpText();
        if (!isPack(pack)) {
            throw new IndexOutOfBoundsException();
        }
        Requirement requirement = reader.onlyRequirement();
        if (requirement == null) {
            throw new IllegalArgumentException();
        }
        root[pack] = requirement;
    }

    public boolean drop(int pack) throws IndexOutOfBoundsException {
        if (!isPack(pack)) {
            throw new IndexOutOfBoundsException();
        }
        boolean had = root[pack] != null;
        root[pack] = null;
        return had;
    }

    public int solve() throws IllegalStateException {
        long solution = search.first(root, pins);
        if (solution == Search.NO_SOLUTION) {
            throw new IllegalStateException();
        }
        Arrays.fill(choice, NONE);
        for (int version = 0; version < registry.count; version++) {
            Release release = registry.at(version);
            if (release != null && Search.holds(solution, version)) {
                choice[release.pack] = version;
            }
        }
        return countGiven(choice);
    }

    public int chosen(int pack) throws IndexOutOfBoundsException {
        if (!isPack(pack)) {
            throw new IndexOutOfBoundsException();
        }
        return choice[pack];
    }

    public int lock() {
        System.arraycopy(choice, 0, pins, 0, PACKS);
        return countGiven(pins);
    }

    public int pin(int version) throws IndexOutOfBoundsException {
        Release release = registry.at(version);
        if (release == null) {
            throw new IndexOutOfBoundsException();
        }
        int before = pins[release.pack];
        pins[release.pack] = version;
        return before;
    }

    public int unlock() {
        int count = countGiven(pins);
        Arrays.fill(pins, NONE);
        return count;
    }

    public boolean meets(int version) throws IndexOutOfBoundsException, IllegalArgumentException {
        Reader reader = useUpText();
        Release release = registry.at(version);
        if (release == null) {
            throw new IndexOutOfBoundsException();
        }
        Requirement requirement = reader.onlyRequirement();
        if (requirement == null) {
            throw new IllegalArgumentException();
        }
        return requirement.isMetBy(release.version);
    }

    public int best(int pack) throws IndexOutOfBoundsException, IllegalArgumentException {
        Reader reader = useUpText();
        if (!isPack(pack)) {
            throw new IndexOutOfBoundsException();
        }
        Requirement requirement = reader.onlyRequirement();
        if (requirement == null) {
            throw new IllegalArgumentException();
        }
        return registry.highest(pack, requirement);
    }

    public int compare(int version, int other) throws IndexOutOfBoundsException {
        Release first = registry.at(version);
        Release second = registry.at(other);
        if (first == null || second == null) {
            throw new IndexOutOfBoundsException();
        }
        return first.version.order(second.version);
    }

    public int needs(int version, int k) throws IndexOutOfBoundsException {
        Release release = registry.at(version);
        if (release == null) {
            throw new IndexOutOfBoundsException();
        }
        return release.neededPack(k);
    }

    public int told(int what) {
        switch (what) {
            case 0:
                return registry.count;
            case 1:
                return registry.countYanked();
            case 2:
                return countWanted();
            case 3:
                return countGiven(pins);
            case 4:
                return text.length;
            default:
                return NONE;
        }
    }

    public int write() {
        file.length = 0;
        for (int pack = 0; pack < PACKS; pack++) {
            Release release = registry.at(choice[pack]);
            if (release != null) {
                writeLine(release);
            }
        }
        return file.length;
    }

    public int fileByte(int i) throws IndexOutOfBoundsException {
        if (i < 0 || i >= file.length) {
            throw new IndexOutOfBoundsException();
        }
        return file.row[i];
    }

    /** The text counts as used up at once, so that every later throw leaves it so. */
    private Reader useUpText() {
        Reader reader = new Reader(text.row, text.length);
        text.length = 0;
        return reader;
    }

    private void writeLine(Release release) {
        file.append((byte) ('0' + release.pack));
        file.append((byte) ' ');
        for (int i = 0; i < release.written.length; i++) {
            file.append(release.written[i]);
        }
        file.append((byte) LINE_END);
    }

    private int countWanted() {
        int count = 0;
        for (int pack = 0; pack < PACKS; pack++) {
            if (root[pack] != null) {
                count++;
            }
        }
        return count;
    }

    private static int countGiven(int[] versions) {
        int count = 0;
        for (int i = 0; i < versions.length; i++) {
            if (versions[i] != NONE) {
                count++;
            }
        }
        return count;
    }

    private static boolean isPack(int pack) {
        return pack >= 0 && pack < PACKS;
    }

    /** A row of bytes that is made once and filled again and again. */
    private static final class Bytes {
        final byte[] row;
        int length;

        Bytes(int most) {
            row = new byte[most];
        }

        void append(byte next) {
            if (length < row.length) {
                row[length] = next;
                length++;
            }
        }
    }

    /** One of the words behind a version's '-'. */
    private static final class Word {
        final byte[] bytes;
        /** NONE where the word is not of digits alone. */
        final int number;

        Word(byte[] bytes, int number) {
            this.bytes = bytes;
            this.number = number;
        }

        int order(Word other) {
            if (number != NONE && other.number != NONE) {
                return Integer.compare(number, other.number);
            }
            if (number != NONE) {
                return -1;
            }
            if (other.number != NONE) {
                return 1;
            }
            for (int i = 0; i < bytes.length && i < other.bytes.length; i++) {
                if (bytes[i] != other.bytes[i]) {
                    return bytes[i] < other.bytes[i] ? -1 : 1;
                }
            }
            return Integer.compare(bytes.length, other.bytes.length);
        }
    }

    /** What counts for the precedence of a version: three numbers and the words behind '-'. */
    private static final class Version {
        final int major;
        final int minor;
        final int patch;
        final Word[] words;

        Version(int major, int minor, int patch, Word[] words) {
            this.major = major;
            this.minor = minor;
            this.patch = patch;
            this.words = words;
        }

        int order(Version other) {
            int byNumbers = orderOfNumbers(other);
            if (byNumbers != 0) {
                return byNumbers;
            }
            if (hasWords() != other.hasWords()) {
                return hasWords() ? -1 : 1;
            }
            for (int i = 0; i < words.length && i < other.words.length; i++) {
                int byWord = words[i].order(other.words[i]);
                if (byWord != 0) {
                    return byWord;
                }
            }
            return Integer.compare(words.length, other.words.length);
        }

        int orderOfNumbers(Version other) {
            if (major != other.major) {
                return major < other.major ? -1 : 1;
            }
            if (minor != other.minor) {
                return minor < other.minor ? -1 : 1;
            }
            return Integer.compare(patch, other.patch);
        }

        boolean hasWords() {
            return words.length > 0;
        }

        /** The lowest version without words whose first, second or third number is one more. */
        Version raised(int which) {
            Word[] none = new Word[0];
            if (which == 1) {
                return new Version(major + 1, 0, 0, none);
            }
            if (which == 2) {
                return new Version(major, minor + 1, 0, none);
            }
            return new Version(major, minor, patch + 1, none);
        }
    }

    /** A comparator, as the span of versions that meet it; a bound that is null is no bound. */
    private static final class Span {
        static final int CARET = 0;
        static final int TILDE = 1;
        static final int EQUAL = 2;
        static final int ABOVE = 3;
        static final int FROM = 4;
        static final int BELOW = 5;
        static final int UP_TO = 6;

        /** What stands in the comparator, with 0 for a number that it has not; null for '*'. */
        private final Version named;
        private Version low;
        private boolean withLow;
        private Version high;
        private boolean withHigh;

        private Span(Version named) {
            this.named = named;
        }

        static Span ofAll() {
            return new Span(null);
        }

        /** The span of a sign before a version of which the comparator has 1, 2 or 3 numbers. */
        static Span of(int sign, Version named, int numbers) {
            Span span = new Span(named);
            boolean whole = numbers == 3;
            // "above 1.2" and "up to 1.2" are meant of all that begin with 1.2
            Version last = whole ? named : named.raised(numbers);
            switch (sign) {
                case CARET:
                    span.from(named, true);
                    span.to(named.raised(keptByCaret(named, numbers)), false);
                    break;
                case TILDE:
                    span.from(named, true);
                    span.to(named.raised(Math.min(numbers, 2)), false);
                    break;
                case EQUAL:
                    span.from(named, true);
                    span.to(last, whole);
                    break;
                case ABOVE:
                    span.from(last, !whole);
                    break;
                case FROM:
                    span.from(named, true);
                    break;
                case BELOW:
                    span.to(named, false);
                    break;
                default:
                    span.to(last, whole);
                    break;
            }
            return span;
        }

        /** Which number '^' keeps: the first that is not 0, of those that the comparator has. */
        private static int keptByCaret(Version named, int numbers) {
            if (named.major != 0 || numbers == 1) {
                return 1;
            }
            return named.minor != 0 || numbers == 2 ? 2 : 3;
        }

        private void from(Version bound, boolean itself) {
            low = bound;
            withLow = itself;
        }

        private void to(Version bound, boolean itself) {
            high = bound;
            withHigh = itself;
        }

        boolean covers(Version version) {
            if (low != null) {
                int order = version.order(low);
                if (order < 0 || order == 0 && !withLow) {
                    return false;
                }
            }
            if (high != null) {
                int order = version.order(high);
                if (order > 0 || order == 0 && !withHigh) {
                    return false;
                }
            }
            return true;
        }

        /** Whether the three numbers of a version stand here with words behind '-'. */
        boolean namesWordsOf(Version version) {
            return named != null && named.hasWords() && named.orderOfNumbers(version) == 0;
        }
    }

    private static final class Requirement {
        private final Span[] spans = new Span[MOST_COMPARATORS];
        private int count;

        void add(Span span) {
            if (count < MOST_COMPARATORS) {
                spans[count] = span;
                count++;
            }
        }

        boolean isMetBy(Version version) {
            boolean named = !version.hasWords();
            for (int i = 0; i < count; i++) {
                if (!spans[i].covers(version)) {
                    return false;
                }
                named = named || spans[i].namesWordsOf(version);
            }
            return named;
        }
    }

    /** A version that is, or is about to be, published. */
    private static final class Release {
        final int pack;
        final Version version;
        final byte[] written;
        private final Requirement[] requirements = new Requirement[PACKS];
        private final int[] needed = new int[MOST_NEEDS];
        private int neededCount;
        boolean yanked;

        Release(int pack, Version version, byte[] written) {
            this.pack = pack;
            this.version = version;
            this.written = written;
        }

        /** Whether there was room: five requirements at most, and one at most on a package. */
        boolean add(int onPack, Requirement requirement) {
            if (!isPack(onPack) || requirements[onPack] != null || neededCount == MOST_NEEDS) {
                return false;
            }
            requirements[onPack] = requirement;
            needed[neededCount] = onPack;
            neededCount++;
            return true;
        }

        int neededPack(int k) {
            return k >= 0 && k < neededCount ? needed[k] : NONE;
        }

        boolean hasNeedOf(int onPack) {
            return isPack(onPack) && requirements[onPack] != null;
        }

        /** Whether a requirement of this one is on the other one's package and not met by it. */
        boolean excludes(Release other) {
            Requirement requirement = requirements[other.pack];
            return requirement != null && !requirement.isMetBy(other.version);
        }
    }

    private static final class Registry {
        private final Release[] releases = new Release[MOST_RELEASES];
        int count;

        /** Null where there is no such version. */
        Release at(int version) {
            return version >= 0 && version < count ? releases[version] : null;
        }

        boolean isFull() {
            return count == MOST_RELEASES;
        }

        boolean hasSame(Release release) {
            for (int i = 0; i < count; i++) {
                Release other = releases[i];
                if (other.pack == release.pack && other.version.order(release.version) == 0) {
                    return true;
                }
            }
            return false;
        }

        int add(Release release) {
            if (isFull()) {
                return NONE;
            }
            releases[count] = release;
            count++;
            return count - 1;
        }

        int countYanked() {
            int yanked = 0;
            for (int i = 0; i < count; i++) {
                if (releases[i].yanked) {
                    yanked++;
                }
            }
            return yanked;
        }

        int highest(int pack, Requirement requirement) {
            int highest = NONE;
            for (int i = 0; i < count; i++) {
                Release release = releases[i];
                if (release.pack == pack && !release.yanked
                        && requirement.isMetBy(release.version)) {
                    highest = higher(highest, i);
                }
            }
            return highest;
        }

        /** Of two versions the one of higher precedence; one that is not there is below all. */
        int higher(int version, int other) {
            Release first = at(version);
            Release second = at(other);
            if (first == null) {
                return other;
            }
            if (second == null) {
                return version;
            }
            return first.version.order(second.version) < 0 ? other : version;
        }
    }

    /**
     * Finds the first solution. An OPTION is that a version is given (its number), or that a
     * package has none (40 and the package); a set of options is the bits of a long. What
     * published versions ask of one another never changes, so it is learnt once: which
     * options clash, that is, can't both be in a solution.
     *
     * That each package must be reached is nowhere looked at. It needs no look: without the
     * packages that are not reached, a choice still meets all requirements, and it comes
     * before the one with them, since none comes first.
     */
    private static final class Search {
        static final long NO_SOLUTION = 0;
        private static final int OPTIONS = MOST_RELEASES + PACKS;

        private final Registry registry;
        private final int[] packOf = new int[OPTIONS];
        private final long[] optionsOf = new long[PACKS];
        private final long[] clashes = new long[OPTIONS];
        /** For each package the options that do not clash with all of its open ones. */
        private final long[] partners = new long[PACKS];
        /** One option for each package, none of which clash: what was found last. */
        private long found;

        Search(Registry registry) {
            this.registry = registry;
            for (int pack = 0; pack < PACKS; pack++) {
                packOf[MOST_RELEASES + pack] = pack;
                optionsOf[pack] = 1L << (MOST_RELEASES + pack);
            }
        }

        static boolean holds(long options, int option) {
            return (options >>> option & 1) != 0;
        }

        void learn(int version, Release release) {
            if (version < 0 || version >= MOST_RELEASES) {
                return;
            }
            packOf[version] = release.pack;
            optionsOf[release.pack] |= 1L << version;
            for (int pack = 0; pack < PACKS; pack++) {
                if (release.hasNeedOf(pack)) {
                    setClash(version, MOST_RELEASES + pack);
                }
            }
            for (int i = 0; i < registry.count; i++) {
                Release other = registry.at(i);
                if (other != null && (release.excludes(other) || other.excludes(release))) {
                    setClash(version, i);
                }
            }
        }

        private void setClash(int option, int other) {
            clashes[option] |= 1L << other;
            clashes[other] |= 1L << option;
        }

        /** The first solution as a set of options, one for each package; or NO_SOLUTION. */
        long first(Requirement[] root, int[] pins) {
            long open = openOptions(root, pins);
            if (!isPossible(open, 0)) {
                return NO_SOLUTION;
            }
            for (int pack = 0; pack < PACKS; pack++) {
                int option = firstPossible(open, pack, pins[pack]);
                if (option == NONE) {
                    return NO_SOLUTION;
                }
                open = settled(open, pack, option);
            }
            return open;
        }

        /** What the root and the yanked versions leave. */
        private long openOptions(Requirement[] root, int[] pins) {
            long open = 0;
            for (int pack = 0; pack < PACKS; pack++) {
                if (root[pack] == null) {
                    open |= 1L << (MOST_RELEASES + pack);
                }
            }
            for (int i = 0; i < registry.count; i++) {
                Release release = registry.at(i);
                if (release != null && (!release.yanked || pins[release.pack] == i)) {
                    Requirement requirement = root[release.pack];
                    if (requirement == null || requirement.isMetBy(release.version)) {
                        open |= 1L << i;
                    }
                }
            }
            return open;
        }

        /** The first option of a package that is possible; what was found last shows one. */
        private int firstPossible(long open, int pack, int pinned) {
            long rest = open & optionsOf[pack];
            for (int i = 0; i < OPTIONS && rest != 0; i++) {
                int option = foremost(rest, pack, pinned);
                if (option == NONE) {
                    return NONE;
                }
                if (holds(found, option) || isPossible(settled(open, pack, option), 0)) {
                    return option;
                }
                rest &= ~(1L << option);
            }
            return NONE;
        }

        private int foremost(long options, int pack, int pinned) {
            if (holds(options, MOST_RELEASES + pack)) {
                return MOST_RELEASES + pack;
            }
            if (pinned != NONE && holds(options, pinned)) {
                return pinned;
            }
            int highest = NONE;
            for (int i = 0; i < registry.count; i++) {
                if (holds(options, i)) {
                    highest = registry.higher(highest, i);
                }
            }
            return highest;
        }

        private long settled(long open, int pack, int option) {
            return open & ~optionsOf[pack] | 1L << option;
        }

        /** Whether each package can have one of the open options without a clash. */
        private boolean isPossible(long open, int depth) {
            long left = narrowed(open);
            if (left == NO_SOLUTION || depth > PACKS) {
                return false;
            }
            int pack = mostPressing(left);
            if (pack == NONE) {
                found = withNoneWherePossible(left);
                return true;
            }
            return isPossibleWithOneOf(pack, left, depth);
        }

        private boolean isPossibleWithOneOf(int pack, long open, int depth) {
            // the latest first: it is often the highest, and then need not be looked for again
            for (int version = MOST_RELEASES - 1; version >= 0; version--) {
                if (holds(open & optionsOf[pack], version)
                        && isPossible(settled(open, pack, version), depth + 1)) {
                    return true;
                }
            }
            return false;
        }

        /**
         * Takes out, until nothing changes, the options that clash with all that is open of
         * some package; that is all of them, where a package has nothing left.
         */
        private long narrowed(long open) {
            long left = open;
            for (int pass = 0; pass <= OPTIONS; pass++) {
                long before = left;
                gatherPartners(left);
                for (int pack = 0; pack < PACKS; pack++) {
                    left &= partners[pack];
                }
                if (left == before) {
                    return left;
                }
            }
            return left;
        }

        private void gatherPartners(long open) {
            Arrays.fill(partners, 0);
            for (int option = 0; option < OPTIONS; option++) {
                if (holds(open, option)) {
                    partners[packOf[option]] |= ~clashes[option];
                }
            }
        }

        /**
         * Of the packages that must have a version and still have several, the one with the
         * fewest, which keeps the search small; NONE where there is no such package.
         */
        private int mostPressing(long open) {
            int pressing = NONE;
            int fewest = OPTIONS;
            for (int pack = 0; pack < PACKS; pack++) {
                int count = Long.bitCount(open & optionsOf[pack]);
                if (count > 1 && count < fewest && !holds(open, MOST_RELEASES + pack)) {
                    pressing = pack;
                    fewest = count;
                }
            }
            return pressing;
        }

        /** That packages have none never clashes with that others have none. */
        private long withNoneWherePossible(long open) {
            long options = open;
            for (int pack = 0; pack < PACKS; pack++) {
                if (holds(open, MOST_RELEASES + pack)) {
                    options = settled(options, pack, MOST_RELEASES + pack);
                }
            }
            return options;
        }
    }

    /** Reads a text by the document's grammar; what is not sound comes as null, NONE or false. */
    private static final class Reader {
        private final byte[] bytes;
        private final int end;
        private int at;
        private final int[] numbers = new int[3];

        Reader(byte[] bytes, int length) {
            this.bytes = bytes;
            this.end = Math.min(length, bytes.length);
        }

        Release publication(int pack) {
            Release release = release(pack);
            if (release == null) {
                return null;
            }
            for (int i = 0; i < MOST_NEEDS && take(';'); i++) {
                int onPack = digitOfPack();
                if (!take(' ')) {
                    return null;
                }
                Requirement requirement = requirement();
                if (requirement == null || !release.add(onPack, requirement)) {
                    return null;
                }
            }
            return at == end ? release : null;
        }

        Requirement onlyRequirement() {
            Requirement requirement = requirement();
            return at == end ? requirement : null;
        }

        /** A VERSION, as a release that has no requirements yet. */
        private Release release(int pack) {
            int start = at;
            if (numbers() != 3) {
                return null;
            }
            Word[] words = words();
            if (words == null || !skipBuild() || at - start > MOST_VERSION_BYTES) {
                return null;
            }
            Version version = new Version(numbers[0], numbers[1], numbers[2], words);
            return new Release(pack, version, Arrays.copyOfRange(bytes, start, at));
        }

        private Requirement requirement() {
            Requirement requirement = new Requirement();
            for (int i = 0; i < MOST_COMPARATORS; i++) {
                skipBlanks();
                Span span = comparator();
                if (span == null) {
                    return null;
                }
                requirement.add(span);
                skipBlanks();
                if (!take(',')) {
                    return requirement;
                }
            }
            return null;
        }

        private Span comparator() {
            if (take('*')) {
                return Span.ofAll();
            }
            int start = at;
            int sign = sign();
            boolean signed = at > start;
            start = at;
            int count = numbers();
            if (count == 0) {
                return null;
            }
            if (count < 3 && !signed && take('.') && take('*')) {
                sign = Span.TILDE;
            }
            Word[] words = count == 3 ? words() : new Word[0];
            if (words == null || at - start > MOST_VERSION_BYTES) {
                return null;
            }
            Version named = new Version(numbers[0], numbers[1], numbers[2], words);
            return Span.of(sign, named, count);
        }

        private int sign() {
            if (take('~')) {
                return Span.TILDE;
            }
            if (take('=')) {
                return Span.EQUAL;
            }
            if (take('>')) {
                return take('=') ? Span.FROM : Span.ABOVE;
            }
            if (take('<')) {
                return take('=') ? Span.UP_TO : Span.BELOW;
            }
            take('^');
            return Span.CARET;
        }

        /**
         * Reads one to three numbers with points between: how many, or 0 where one is not
         * sound. A point before a star stays unread: whether it may stand there, the caller
         * knows.
         */
        private int numbers() {
            Arrays.fill(numbers, 0);
            for (int i = 0; i < numbers.length; i++) {
                int number = number();
                if (number == NONE) {
                    return 0;
                }
                numbers[i] = number;
                if (i == 2 || !isAt(at, '.') || isAt(at + 1, '*')) {
                    return i + 1;
                }
                at++;
            }
            return 0;
        }

        private int number() {
            int start = at;
            int number = 0;
            while (at < end && bytes[at] >= '0' && bytes[at] <= '9') {
                number = 10 * number + bytes[at] - '0';
                at++;
            }
            int digits = at - start;
            if (digits == 0 || digits > MOST_NUMBER_DIGITS) {
                return NONE;
            }
            return digits > 1 && bytes[start] == '0' ? NONE : number;
        }

        /** The words behind '-', an empty row where there is no '-'. */
        private Word[] words() {
            Word[] words = new Word[take('-') ? countWords() : 0];
            for (int i = 0; i < words.length; i++) {
                if (i > 0 && !take('.')) {
                    return null;
                }
                Word word = word();
                if (word == null) {
                    return null;
                }
                words[i] = word;
            }
            return words;
        }

        private int countWords() {
            int start = at;
            int count = 1;
            for (int i = 0; i < end; i++) {
                skipWord();
                if (!take('.')) {
                    break;
                }
                count++;
            }
            at = start;
            return count;
        }

        private Word word() {
            int start = at;
            int number = number();
            int endOfDigits = at;
            skipWord();
            boolean digitsAlone = at == endOfDigits;
            if (digitsAlone && number == NONE) {
                return null;
            }
            byte[] word = Arrays.copyOfRange(bytes, start, at);
            return new Word(word, digitsAlone ? number : NONE);
        }

        /** Words behind '+' count for nothing, but each must have a byte. */
        private boolean skipBuild() {
            if (!take('+')) {
                return true;
            }
            for (int i = 0; i < end; i++) {
                int start = at;
                skipWord();
                if (at == start) {
                    return false;
                }
                if (!take('.')) {
                    return true;
                }
            }
            return false;
        }

        private void skipWord() {
            while (at < end && (bytes[at] >= 'a' && bytes[at] <= 'z'
                    || bytes[at] >= 'A' && bytes[at] <= 'Z'
                    || bytes[at] >= '0' && bytes[at] <= '9' || bytes[at] == '-')) {
                at++;
            }
        }

        private void skipBlanks() {
            while (at < end && bytes[at] == ' ') {
                at++;
            }
        }

        private int digitOfPack() {
            if (at >= end || !isPack(bytes[at] - '0')) {
                return NONE;
            }
            at++;
            return bytes[at - 1] - '0';
        }

        private boolean take(char sign) {
            if (at >= end || bytes[at] != sign) {
                return false;
            }
            at++;
            return true;
        }

        private boolean isAt(int place, char sign) {
            return place >= 0 && place < end && bytes[place] == sign;
        }
    }
}
