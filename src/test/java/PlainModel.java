import java.math.BigInteger;
import java.util.ArrayList;
import java.util.HashSet;
import java.util.List;
import java.util.Set;
import java.util.TreeSet;
import java.util.regex.Matcher;
import java.util.regex.Pattern;

/**
 * The document's sentences once more, by other means than the program's (texts, patterns and sets),
 * so that a mistake in one of the two shows when they are given the same calls.
 */
final class PlainModel {
    private static final String NAME = "[a-z]{1,8}";
    private static final String VERSION = "(?=[^:,\\])]{1,12}(?:[:,\\])]|\\z))[0-9][0-9a-z]*(?:[.-][0-9a-z]+)*";
    private static final String RANGE = "(?:(?<wish>" + VERSION + ")|\\[(?<just>" + VERSION + ")\\]"
            + "|(?<from>[\\[(])(?<low>" + VERSION + ")?,(?<high>" + VERSION + ")?(?<to>[\\])]))";
    private static final Pattern PUBLISH = Pattern.compile("(?<name>" + NAME + "):(?<version>" + VERSION + ")");
    private static final Pattern NEED = Pattern.compile("(?<name>" + NAME + "):" + RANGE);
    private static final Pattern COMPARE = Pattern.compile("(?<first>" + VERSION + "):(?<second>" + VERSION + ")");
    private static final Pattern PART = Pattern.compile("[0-9]+|[a-z]+");

    private record Dependency(String name, Matcher range, boolean optional, List<String> exclusions) {
    }

    private static final class Artifact {
        int number;
        String name;
        String version;
        boolean retired;
        final List<Dependency> dependencies = new ArrayList<>();
        final Set<Integer> classes = new TreeSet<>();
    }

    private record Entry(Artifact artifact, int depth, int parent, Set<String> barred) {
    }

    private final List<Artifact> artifacts = new ArrayList<>();
    private List<Entry> result = new ArrayList<>();
    private String line = "";
    private int culprit = -1;

    int type(int c) {
        if (c < 0 || c > 255) {
            return -1;
        }
        if (line.length() == 40) {
            return -2;
        }
        line += (char) c;
        return line.length();
    }

    int wipe() {
        return read().length();
    }

    int publish() {
        Matcher m = PUBLISH.matcher(read());
        if (!m.matches()) {
            return -3;
        }
        for (Artifact a : artifacts) {
            if (!a.retired && a.name.equals(m.group("name")) && order(a.version, m.group("version")) == 0) {
                return -1;
            }
        }
        if (artifacts.size() == 20) {
            return -2;
        }
        Artifact made = new Artifact();
        made.number = artifacts.size();
        made.name = m.group("name");
        made.version = m.group("version");
        artifacts.add(made);
        return made.number;
    }

    int depend(int artifact, boolean optional) {
        Matcher m = NEED.matcher(read());
        if (!isArtifact(artifact)) {
            return -1;
        }
        if (!m.matches()) {
            return -3;
        }
        List<Dependency> dependencies = artifacts.get(artifact).dependencies;
        if (dependencies.size() == 6) {
            return -2;
        }
        dependencies.add(new Dependency(m.group("name"), m, optional, new ArrayList<>()));
        return dependencies.size() - 1;
    }

    int exclude(int artifact) {
        String read = read();
        if (!isArtifact(artifact) || artifacts.get(artifact).dependencies.isEmpty()) {
            return -1;
        }
        if (!read.matches(NAME)) {
            return -3;
        }
        List<Dependency> dependencies = artifacts.get(artifact).dependencies;
        List<String> exclusions = dependencies.get(dependencies.size() - 1).exclusions;
        if (exclusions.size() == 3) {
            return -2;
        }
        exclusions.add(read);
        return 0;
    }

    int pack(int artifact, int cls, boolean on) {
        if (!isArtifact(artifact) || cls < 0 || cls > 31) {
            return -1;
        }
        if (on) {
            artifacts.get(artifact).classes.add(cls);
        } else {
            artifacts.get(artifact).classes.remove(cls);
        }
        return 0;
    }

    int retire(int artifact) {
        if (!isArtifact(artifact) || artifacts.get(artifact).retired) {
            return -1;
        }
        artifacts.get(artifact).retired = true;
        return 0;
    }

    int compare() {
        Matcher m = COMPARE.matcher(read());
        return m.matches() ? 3 + order(m.group("first"), m.group("second")) : -3;
    }

    int resolve() {
        Matcher m = NEED.matcher(read());
        if (!m.matches()) {
            return -3;
        }
        culprit = -1;
        Artifact root = pick(m.group("name"), m);
        if (root == null) {
            return -4;
        }
        List<Entry> list = new ArrayList<>();
        list.add(new Entry(root, 0, -1, Set.of()));
        for (int e = 0; e < list.size(); e++) {
            List<Dependency> dependencies = list.get(e).artifact.dependencies;
            for (int k = 0; k < dependencies.size(); k++) {
                int outcome = goThrough(list, e, dependencies.get(k));
                if (outcome < 0) {
                    culprit = 8 * list.get(e).artifact.number + k;
                    return outcome;
                }
            }
        }
        result = list;
        return list.size();
    }

    private int goThrough(List<Entry> list, int e, Dependency d) {
        Entry entry = list.get(e);
        if (entry.barred.contains(d.name) || d.optional && entry.depth != 0) {
            return 0;
        }
        for (Entry other : list) {
            if (other.artifact.name.equals(d.name)) {
                return d.range.group("wish") != null || holds(d.range, other.artifact.version) ? 0 : -5;
            }
        }
        Artifact picked = pick(d.name, d.range);
        if (picked == null) {
            return -4;
        }
        Set<String> barred = new HashSet<>(entry.barred);
        barred.addAll(d.exclusions);
        list.add(new Entry(picked, entry.depth + 1, e, barred));
        return 0;
    }

    int culprit() {
        return culprit;
    }

    int entry(int k) {
        return isEntry(k) ? result.get(k).artifact.number : -1;
    }

    int depth(int k) {
        return isEntry(k) ? result.get(k).depth : -1;
    }

    int parent(int k) {
        return isEntry(k) ? result.get(k).parent : -1;
    }

    int find(int d, int cls) {
        if (d < 0) {
            return -1;
        }
        for (int layer = count(4); layer >= d; layer--) {
            for (int e = 0; e < result.size(); e++) {
                if (result.get(e).depth == layer && result.get(e).artifact.classes.contains(cls)) {
                    return e;
                }
            }
        }
        return -1;
    }

    int text(int artifact, int i) {
        if (!isArtifact(artifact)) {
            return -1;
        }
        String whole = artifacts.get(artifact).name + ":" + artifacts.get(artifact).version;
        return i == -1 ? whole.length() : i < 0 || i >= whole.length() ? -1 : whole.charAt(i);
    }

    int count(int what) {
        return switch (what) {
            case 0 -> artifacts.size();
            case 1 -> (int) artifacts.stream().filter(a -> a.retired).count();
            case 2 -> line.length();
            case 3 -> result.size();
            case 4 -> result.stream().mapToInt(Entry::depth).max().orElse(0);
            case 5 -> sharedClasses();
            default -> -1;
        };
    }

    private int sharedClasses() {
        int shared = 0;
        for (int cls = 0; cls < 32; cls++) {
            int wanted = cls;
            shared += result.stream().filter(e -> e.artifact.classes.contains(wanted)).count() > 1 ? 1 : 0;
        }
        return shared;
    }

    private String read() {
        String read = line;
        line = "";
        return read;
    }

    private boolean isArtifact(int number) {
        return number >= 0 && number < artifacts.size();
    }

    private boolean isEntry(int k) {
        return k >= 0 && k < result.size();
    }

    private Artifact pick(String name, Matcher range) {
        return artifacts.stream().filter(a -> !a.retired && a.name.equals(name) && holds(range, a.version))
                .max((a, b) -> order(a.version, b.version)).orElse(null);
    }

    private static boolean holds(Matcher range, String version) {
        String exact = range.group("wish") != null ? range.group("wish") : range.group("just");
        if (exact != null) {
            return order(version, exact) == 0;
        }
        String low = range.group("low");
        String high = range.group("high");
        boolean above = low == null || order(version, low) >= (range.group("from").equals("(") ? 1 : 0);
        boolean below = high == null || order(version, high) <= (range.group("to").equals(")") ? -1 : 0);
        return above && below;
    }

    private static int order(String first, String second) {
        List<String> a = PART.matcher(first).results().map(r -> r.group()).toList();
        List<String> b = PART.matcher(second).results().map(r -> r.group()).toList();
        for (int i = 0; i < Math.max(a.size(), b.size()); i++) {
            int order = partOrder(i < a.size() ? a.get(i) : "0", i < b.size() ? b.get(i) : "0");
            if (order != 0) {
                return order;
            }
        }
        return 0;
    }

    private static int partOrder(String a, String b) {
        boolean numberA = Character.isDigit(a.charAt(0));
        boolean numberB = Character.isDigit(b.charAt(0));
        if (numberA != numberB) {
            return numberA ? 1 : -1;
        }
        return numberA ? new BigInteger(a).compareTo(new BigInteger(b)) : Integer.signum(a.compareTo(b));
    }
}
