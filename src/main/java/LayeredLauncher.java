/**
 * Works out from a repository of published artifacts which version of every needed one a program
 * runs with, puts them in layers, and finds which of them gives a class to a layer.
 */
public final class LayeredLauncher {
    public static final int OK = 0;
    public static final int REFUSED = -1;
    public static final int FULL = -2;
    public static final int BAD = -3;
    public static final int MISSING = -4;
    public static final int CONFLICT = -5;

    private static final int LINE_LIMIT = 40;
    private static final int LAST_CHARACTER = 255;
    private static final int NAME_LIMIT = 8;
    private static final int VERSION_LIMIT = 12;
    private static final int ARTIFACT_LIMIT = 20;
    private static final int DEPENDENCY_LIMIT = 6;
    private static final int EXCLUSION_LIMIT = 3;
    private static final int CLASS_LIMIT = 32;

    /** What compare answers for EQUAL versions; below is one less and above one more. */
    private static final int COMPARED_EQUAL = 3;
    private static final int CULPRIT_STEP = 8;
    private static final int NO_CULPRIT = -1;
    private static final int NO_ENTRY = -1;

    /** Letters count from 1 and so no name of at least one letter has this number. */
    private static final long NO_NAME = 0L;
    private static final int LETTER_BASE = 27;
    /** 27 to the power 10: the weight of the first of the at most 11 letters of a word part. */
    private static final long FIRST_LETTER_WEIGHT = 205891132094649L;

    private final Line line;
    private final Artifact[] artifacts;
    private int artifactCount;
    private EntryList result;
    /** Where RESOLVING writes, so that the RESULT stays if it fails; a success swaps the two. */
    private EntryList draft;
    private int lastCulprit;

    public LayeredLauncher() {
        line = new Line();
        artifacts = new Artifact[ARTIFACT_LIMIT];
        artifactCount = 0;
        result = new EntryList();
        draft = new EntryList();
        lastCulprit = NO_CULPRIT;
    }

    public int type(int c) {
        if (c < 0 || c > LAST_CHARACTER) {
            return REFUSED;
        }
        if (line.length == LINE_LIMIT) {
            return FULL;
        }
        line.append((char) c);
        return line.length;
    }

    public int wipe() {
        int had = line.length;
        line.clear();
        return had;
    }

    public int publish() {
        long name = line.takeNameAndColon();
        Version version = line.takeVersion();
        char[] characters = line.copy();
        boolean whole = line.finishReading();
        if (name == NO_NAME || version == null || !whole) {
            return BAD;
        }
        if (pickFor(name, Range.exactly(version, true)) != null) {
            return REFUSED;
        }
        if (artifactCount >= ARTIFACT_LIMIT) {
            return FULL;
        }
        int number = artifactCount;
        artifacts[number] = new Artifact(number, name, version, characters);
        artifactCount++;
        return number;
    }

    public int depend(int artifact, boolean optional) {
        long name = line.takeNameAndColon();
        Range range = line.takeRange();
        boolean whole = line.finishReading();
        Artifact owner = artifactAt(artifact);
        if (owner == null) {
            return REFUSED;
        }
        if (name == NO_NAME || range == null || !whole) {
            return BAD;
        }
        if (owner.dependencyCount >= DEPENDENCY_LIMIT) {
            return FULL;
        }
        owner.addDependency(new Dependency(name, range, optional));
        return owner.dependencyCount - 1;
    }

    public int exclude(int artifact) {
        long name = line.takeName();
        boolean whole = line.finishReading();
        Artifact owner = artifactAt(artifact);
        Dependency last = owner == null ? null : owner.lastDependency();
        if (last == null) {
            return REFUSED;
        }
        if (name == NO_NAME || !whole) {
            return BAD;
        }
        if (last.exclusionCount >= EXCLUSION_LIMIT) {
            return FULL;
        }
        last.addExclusion(name);
        return OK;
    }

    public int pack(int artifact, int cls, boolean on) {
        Artifact owner = artifactAt(artifact);
        if (owner == null || !isClass(cls)) {
            return REFUSED;
        }
        owner.setClass(cls, on);
        return OK;
    }

    public int retire(int artifact) {
        Artifact owner = artifactAt(artifact);
        if (owner == null || owner.retired) {
            return REFUSED;
        }
        owner.retired = true;
        return OK;
    }

    public int compare() {
        Version first = line.takeVersion();
        boolean colon = line.take(':');
        Version second = line.takeVersion();
        boolean whole = line.finishReading();
        if (first == null || !colon || second == null || !whole) {
            return BAD;
        }
        return COMPARED_EQUAL + first.orderAgainst(second);
    }

    public int resolve() {
        long name = line.takeNameAndColon();
        Range range = line.takeRange();
        boolean whole = line.finishReading();
        if (name == NO_NAME || range == null || !whole) {
            return BAD;
        }
        lastCulprit = NO_CULPRIT;
        Artifact root = pickFor(name, range);
        if (root == null) {
            return MISSING;
        }
        int outcome = fillDraft(root);
        if (outcome != OK) {
            return outcome;
        }
        EntryList replaced = result;
        result = draft;
        draft = replaced;
        return result.size;
    }

    public int culprit() {
        return lastCulprit;
    }

    public int entry(int k) {
        return result.has(k) ? result.artifacts[k].number : REFUSED;
    }

    public int depth(int k) {
        return result.has(k) ? result.depths[k] : REFUSED;
    }

    public int parent(int k) {
        return k != 0 && result.has(k) ? result.parents[k] : REFUSED;
    }

    public int find(int d, int cls) {
        if (d < 0 || !isClass(cls)) {
            return REFUSED;
        }
        int giver = result.deepestGiver(d, cls);
        return giver == NO_ENTRY ? REFUSED : giver;
    }

    public int text(int artifact, int i) {
        Artifact owner = artifactAt(artifact);
        if (owner == null) {
            return REFUSED;
        }
        if (i == -1) {
            return owner.characters.length;
        }
        if (i < 0 || i >= owner.characters.length) {
            return REFUSED;
        }
        return owner.characters[i];
    }

    public int count(int what) {
        switch (what) {
            case 0:
                return artifactCount;
            case 1:
                return retiredArtifacts();
            case 2:
                return line.length;
            case 3:
                return result.size;
            case 4:
                return result.greatestDepth();
            case 5:
                return result.sharedClasses();
            default:
                return REFUSED;
        }
    }

    private Artifact artifactAt(int number) {
        return number >= 0 && number < artifactCount ? artifacts[number] : null;
    }

    private int retiredArtifacts() {
        int retired = 0;
        for (int i = 0; i < artifactCount; i++) {
            if (artifacts[i].retired) {
                retired++;
            }
        }
        return retired;
    }

    /** THE PICK, or null if there is none. */
    private Artifact pickFor(long name, Range range) {
        Artifact best = null;
        for (int i = 0; i < artifactCount; i++) {
            Artifact candidate = artifacts[i];
            boolean fits = !candidate.retired && candidate.name == name && range.holds(candidate.version);
            if (fits && (best == null || candidate.version.orderAgainst(best.version) > 0)) {
                best = candidate;
            }
        }
        return best;
    }

    /** RESOLVING, once the first PICK is known: OK, or what it ended with, the culprit noted. */
    private int fillDraft(Artifact root) {
        draft.begin(root);
        for (int e = 0; e < draft.size && e < ARTIFACT_LIMIT; e++) {
            Artifact owner = draft.artifacts[e];
            for (int k = 0; k < owner.dependencyCount; k++) {
                int outcome = follow(e, owner.dependencies[k]);
                if (outcome != OK) {
                    lastCulprit = CULPRIT_STEP * owner.number + k;
                    return outcome;
                }
            }
        }
        return OK;
    }

    private int follow(int from, Dependency dependency) {
        if (dependency.optional && draft.depths[from] != 0 || draft.bars(from, dependency.name)) {
            return OK;
        }
        Artifact present = draft.artifactNamed(dependency.name);
        if (present != null) {
            boolean agrees = dependency.range.wish || dependency.range.holds(present.version);
            return agrees ? OK : CONFLICT;
        }
        Artifact picked = pickFor(dependency.name, dependency.range);
        if (picked == null) {
            return MISSING;
        }
        draft.add(picked, from, dependency);
        return OK;
    }

    private static boolean isClass(int cls) {
        return cls >= 0 && cls < CLASS_LIMIT;
    }

    private static boolean isDigit(char c) {
        return c >= '0' && c <= '9';
    }

    private static boolean isLetter(char c) {
        return c >= 'a' && c <= 'z';
    }

    private static boolean isSeparator(char c) {
        return c == '.' || c == '-';
    }

    private static int letterNumber(char c) {
        return c - 'a' + 1;
    }

    /** THE LINE, and a place in it up to which the call that reads it has come. */
    private static final class Line {
        final char[] characters = new char[LINE_LIMIT];
        int length = 0;
        int at = 0;

        void append(char c) {
            if (length < LINE_LIMIT) {
                characters[length] = c;
                length++;
            }
        }

        void clear() {
            length = 0;
            at = 0;
        }

        char[] copy() {
            char[] copied = new char[length];
            System.arraycopy(characters, 0, copied, 0, length);
            return copied;
        }

        /** Ends the reading, which empties the line; answers if nothing was left unread. */
        boolean finishReading() {
            boolean whole = at == length;
            clear();
            return whole;
        }

        boolean standsAt(char c) {
            return at < length && characters[at] == c;
        }

        boolean take(char c) {
            if (!standsAt(c)) {
                return false;
            }
            at++;
            return true;
        }

        /** The number of a NAME; a letter too many stays unread and makes the line wrong. */
        long takeName() {
            long name = NO_NAME;
            int end = Math.min(length, at + NAME_LIMIT);
            while (at < end && isLetter(characters[at])) {
                name = name * LETTER_BASE + letterNumber(characters[at]);
                at++;
            }
            return name;
        }

        long takeNameAndColon() {
            long name = takeName();
            return take(':') ? name : NO_NAME;
        }

        /** The VERSION that stands here, or null. */
        Version takeVersion() {
            int start = at;
            while (at < length && isOfVersion(characters[at])) {
                at++;
            }
            return isVersion(start, at) ? new Version(characters, start, at) : null;
        }

        /** The RANGE that stands here, or null. */
        Range takeRange() {
            boolean closed = take('[');
            boolean open = !closed && take('(');
            if (!closed && !open) {
                Version wished = takeVersion();
                return wished == null ? null : Range.exactly(wished, true);
            }
            Version low = null;
            if (!standsAt(',')) {
                low = takeVersion();
                if (low == null) {
                    return null;
                }
                if (closed && take(']')) {
                    return Range.exactly(low, false);
                }
            }
            return take(',') ? takeRestOfRange(low, open) : null;
        }

        private Range takeRestOfRange(Version low, boolean lowOpen) {
            Version high = null;
            if (!standsAt(']') && !standsAt(')')) {
                high = takeVersion();
                if (high == null) {
                    return null;
                }
            }
            boolean highOpen = take(')');
            if (!highOpen && !take(']')) {
                return null;
            }
            return new Range(false, low, lowOpen, high, highOpen);
        }

        private boolean isVersion(int start, int end) {
            if (start == end || end - start > VERSION_LIMIT || !isDigit(characters[start])) {
                return false;
            }
            boolean afterSeparator = false;
            for (int i = start; i < end; i++) {
                boolean separator = isSeparator(characters[i]);
                if (separator && afterSeparator) {
                    return false;
                }
                afterSeparator = separator;
            }
            return !afterSeparator;
        }

        private static boolean isOfVersion(char c) {
            return isDigit(c) || isLetter(c) || isSeparator(c);
        }
    }

    /**
     * The PARTS of a version as numbers that stand in ORDER: a number part is its value; a word part
     * is its letters as a fraction would have them, the first one weighing most, moved below 0; and
     * the parts that are missing are 0 as the document asks.
     */
    private static final class Version {
        final long[] parts = new long[VERSION_LIMIT];

        Version(char[] characters, int start, int end) {
            int part = -1;
            long weight = 0L;
            for (int i = start; i < end && i - start < VERSION_LIMIT; i++) {
                char c = characters[i];
                char before = i == start ? '.' : characters[i - 1];
                if (isDigit(c)) {
                    part += isDigit(before) ? 0 : 1;
                    parts[part] = parts[part] * 10 + (c - '0');
                } else if (isLetter(c)) {
                    if (!isLetter(before)) {
                        part++;
                        weight = FIRST_LETTER_WEIGHT;
                        parts[part] = -LETTER_BASE * FIRST_LETTER_WEIGHT;
                    }
                    parts[part] += letterNumber(c) * weight;
                    weight /= LETTER_BASE;
                }
            }
        }

        /** -1, 0 or 1: this version is below, EQUAL to or above the other. */
        int orderAgainst(Version other) {
            for (int i = 0; i < VERSION_LIMIT; i++) {
                if (parts[i] != other.parts[i]) {
                    return parts[i] < other.parts[i] ? -1 : 1;
                }
            }
            return 0;
        }
    }

    private static final class Range {
        final boolean wish;
        /** A bound that is null is none. */
        final Version low;
        final boolean lowOpen;
        final Version high;
        final boolean highOpen;

        Range(boolean wish, Version low, boolean lowOpen, Version high, boolean highOpen) {
            this.wish = wish;
            this.low = low;
            this.lowOpen = lowOpen;
            this.high = high;
            this.highOpen = highOpen;
        }

        static Range exactly(Version version, boolean wish) {
            return new Range(wish, version, false, version, false);
        }

        boolean holds(Version version) {
            return keepsLow(version) && keepsHigh(version);
        }

        private boolean keepsLow(Version version) {
            if (low == null) {
                return true;
            }
            int order = version.orderAgainst(low);
            return order > 0 || order == 0 && !lowOpen;
        }

        private boolean keepsHigh(Version version) {
            if (high == null) {
                return true;
            }
            int order = version.orderAgainst(high);
            return order < 0 || order == 0 && !highOpen;
        }
    }

    private static final class Dependency {
        final long name;
        final Range range;
        final boolean optional;
        final long[] exclusions = new long[EXCLUSION_LIMIT];
        int exclusionCount = 0;

        Dependency(long name, Range range, boolean optional) {
            this.name = name;
            this.range = range;
            this.optional = optional;
        }

        void addExclusion(long excluded) {
            if (exclusionCount < EXCLUSION_LIMIT) {
                exclusions[exclusionCount] = excluded;
                exclusionCount++;
            }
        }

        boolean excludes(long wanted) {
            for (int i = 0; i < exclusionCount; i++) {
                if (exclusions[i] == wanted) {
                    return true;
                }
            }
            return false;
        }
    }

    private static final class Artifact {
        final int number;
        final long name;
        final Version version;
        /** The line it was published with: its name, a colon and its version. */
        final char[] characters;
        final Dependency[] dependencies = new Dependency[DEPENDENCY_LIMIT];
        int dependencyCount = 0;
        /** Bit c is set if the artifact has class c. */
        int classes = 0;
        boolean retired = false;

        Artifact(int number, long name, Version version, char[] characters) {
            this.number = number;
            this.name = name;
            this.version = version;
            this.characters = characters;
        }

        void addDependency(Dependency dependency) {
            if (dependencyCount < DEPENDENCY_LIMIT) {
                dependencies[dependencyCount] = dependency;
                dependencyCount++;
            }
        }

        Dependency lastDependency() {
            return dependencyCount == 0 ? null : dependencies[dependencyCount - 1];
        }

        void setClass(int cls, boolean on) {
            classes = on ? classes | 1 << cls : classes & ~(1 << cls);
        }

        boolean hasClass(int cls) {
            return (classes & 1 << cls) != 0;
        }
    }

    /** A list of ENTRIES; no two have artifacts of one name, so there are never more than artifacts. */
    private static final class EntryList {
        final Artifact[] artifacts = new Artifact[ARTIFACT_LIMIT];
        final int[] depths = new int[ARTIFACT_LIMIT];
        final int[] parents = new int[ARTIFACT_LIMIT];
        /** The dependencies that the entries came by; the first entry came by none. */
        final Dependency[] reasons = new Dependency[ARTIFACT_LIMIT];
        int size = 0;

        void begin(Artifact root) {
            artifacts[0] = root;
            depths[0] = 0;
            parents[0] = NO_ENTRY;
            reasons[0] = null;
            size = 1;
        }

        void add(Artifact artifact, int from, Dependency reason) {
            if (size < ARTIFACT_LIMIT) {
                artifacts[size] = artifact;
                depths[size] = depths[from] + 1;
                parents[size] = from;
                reasons[size] = reason;
                size++;
            }
        }

        boolean has(int k) {
            return k >= 0 && k < size;
        }

        /**
         * If the name is one of the entry's barred names, which are the EXCLUSIONS of the dependencies
         * that led to it. They are looked up there, as a list for each entry would hold them many times.
         */
        boolean bars(int k, long name) {
            int e = k;
            for (int steps = 0; steps < ARTIFACT_LIMIT && e > 0; steps++) {
                if (reasons[e].excludes(name)) {
                    return true;
                }
                e = parents[e];
            }
            return false;
        }

        Artifact artifactNamed(long name) {
            for (int e = 0; e < size; e++) {
                if (artifacts[e].name == name) {
                    return artifacts[e];
                }
            }
            return null;
        }

        int deepestGiver(int layer, int cls) {
            int giver = NO_ENTRY;
            for (int e = 0; e < size; e++) {
                boolean gives = depths[e] >= layer && artifacts[e].hasClass(cls);
                if (gives && (giver == NO_ENTRY || depths[e] > depths[giver])) {
                    giver = e;
                }
            }
            return giver;
        }

        int greatestDepth() {
            int greatest = 0;
            for (int e = 0; e < size; e++) {
                greatest = Math.max(greatest, depths[e]);
            }
            return greatest;
        }

        int sharedClasses() {
            int seen = 0;
            int shared = 0;
            for (int e = 0; e < size; e++) {
                shared |= seen & artifacts[e].classes;
                seen |= artifacts[e].classes;
            }
            return Integer.bitCount(shared);
        }
    }
}
