/** Promises 10 and 11 (resolve, culprit), with the terms RANGE, THE PICK and RESOLVING. */
public final class ResolveTest {
    public static void main(String[] args) {
        ranges();
        theGreatestIsPicked();
        breadthFirst();
        wishesGiveWay();
        conflicts();
        missing();
        optional();
        exclusions();
        threeExclusions();
        inheritedExclusions();
        culpritIsKept();
        twentyEntries();
        Due.end();
    }

    private static void ranges() {
        // The artifacts 0 to 4 in ORDER; the row says the PICK that each RANGE finds among them.
        String[] artifacts = {"a:1", "a:1.5", "a:2-b", "a:2", "a:3"};
        String[] ranges = {
            "1", "1.0", "2b", "2.0", "9", "[1]", "[2.0]", "[9]", "[1,2]", "[1,2)", "(1,2)", "(1,2b)", "[1,2b]", "(1.5,2b)",
            "[1.5,2b)", "(,1)", "(,1]", "[,1]", "[,1)", "[3,]", "(3,]", "[3,)", "(3,)", "(,)", "[,]", "[2,1]", "(2,2)", "[2,2]",
            "(2,2]", "[2,2)", "[0,1)", "(3,9)", "[0,9]", "(2b,2]", "(0,1.5)"};
        int[] picks = {
            0, 0, 2, 3, -1, 0, 3, -1, 3, 2, 2, 1, 2, -1,
            1, -1, 0, 0, -1, 4, -1, 4, -1, 4, 4, -1, -1, 3,
            -1, -1, -1, -1, 4, 3, 0};
        for (int i = 0; i < ranges.length; i++) {
            Run run = Run.of(artifacts);
            Due.due("resolve " + ranges[i], run.resolve("a:" + ranges[i]), picks[i] < 0 ? -4 : 1);
            Due.due("the PICK of " + ranges[i], run.x.entry(0), picks[i]);
            Due.due("culprit of " + ranges[i], run.x.culprit(), -1);
        }
    }

    private static void theGreatestIsPicked() {
        Run run = Run.of("a:3", "a:10", "b:11", "a:9", "a:10rc");
        run.resolve("a:(,)");
        run.dueEntries("10 is above 9 and 10rc", "1");
        run.x.retire(1);
        run.resolve("a:(,)");
        run.dueEntries("10rc is above 9", "4");
        run.need(3, "a:[3,9]");
        Due.due("an artifact may need its own name", run.resolve("a:[9]"), 1);
        run.need(3, "a:[3]");
        Due.due("but not another of it", run.resolve("a:[9]"), -5);
        Due.due("culprit", run.x.culprit(), 8 * 3 + 1);
    }

    private static void breadthFirst() {
        Run run = Run.of("a:1", "b:1", "c:1", "d:1", "e:1", "d:2");
        run.need(0, "b:1");
        run.need(0, "c:1");
        run.need(1, "e:1");
        run.need(1, "d:1");
        run.need(2, "d:2");
        run.need(3, "a:1");
        Due.due("resolve", run.resolve("a:1"), 5);
        run.dueEntries("breadth first", "0 1 2 4 3");
        int[] depths = {0, 1, 1, 2, 2};
        int[] parents = {-1, 0, 0, 1, 1};
        for (int k = 0; k < 5; k++) {
            Due.due("depth " + k, run.x.depth(k), depths[k]);
            Due.due("parent " + k, run.x.parent(k), parents[k]);
        }
    }

    private static void wishesGiveWay() {
        Run run = Run.of("a:1", "b:1", "c:1", "c:2");
        run.need(0, "c:2");
        run.need(0, "b:1");
        run.need(1, "c:1");
        run.need(1, "c:9");
        Due.due("a WISH never conflicts", run.resolve("a:1"), 3);
        run.dueEntries("the first one wins", "0 3 1");
        run.need(1, "c:[2,3)");
        Due.due("a RANGE that holds the entry's version", run.resolve("a:1"), 3);
        run.need(1, "c:[1]");
        Due.due("[v] is no WISH", run.resolve("a:1"), -5);
        Due.due("the line is empty after CONFLICT", run.x.count(2), 0);
        Due.due("culprit", run.x.culprit(), 8 + 3);
        run.dueEntries("the RESULT stays", "0 3 1");
    }

    private static void conflicts() {
        Run run = Run.of("a:1", "b:1", "c:1", "c:2");
        run.need(0, "c:[1,2)");
        run.need(0, "b:1");
        run.need(1, "c:(1,)");
        run.need(1, "zz:1");
        Due.due("the first trouble ends all", run.resolve("a:1"), -5);
        Due.due("culprit", run.x.culprit(), 8);
        run.x.retire(3);
        Due.due("an entry is there, so it is no MISSING", run.resolve("a:1"), -5);
    }

    private static void missing() {
        Run run = Run.of("a:1", "b:1", "b:2");
        run.need(0, "b:[1]");
        run.need(0, "c:1");
        run.need(1, "b:[2]");
        Due.due("MISSING", run.resolve("a:1"), -4);
        Due.due("culprit", run.x.culprit(), 1);
        Due.due("no RESULT", run.x.count(3), 0);
        run.publish("c:1.1");
        Due.due("a WISH is just its version", run.resolve("a:1"), -4);
        run.publish("c:1.0");
        Due.due("now b conflicts", run.resolve("a:1"), -5);
        Due.due("culprit", run.x.culprit(), 8);
        Due.due("no such root", run.resolve("q:1"), -4);
        Due.due("culprit of a root", run.x.culprit(), -1);
    }

    private static void optional() {
        Run run = Run.of("a:1", "b:1", "c:1");
        run.mayNeed(0, "b:1");
        run.mayNeed(1, "c:1");
        Due.due("optional ones of depth 0 count", run.resolve("a:1"), 2);
        run.dueEntries("those deeper do not", "0 1");
        Due.due("as root they do", run.resolve("b:1"), 2);
        run.mayNeed(1, "a:[7]");
        Due.due("no conflict of a deeper optional one", run.resolve("a:1"), 2);
        run.mayNeed(0, "zz:1");
        Due.due("an optional one of depth 0 may be MISSING", run.resolve("a:1"), -4);
        Due.due("culprit", run.x.culprit(), 1);
    }

    private static void exclusions() {
        Run run = Run.of("a:1", "b:1", "c:1", "d:1");
        run.need(0, "b:1");
        run.exclude(0, "d");
        run.exclude(0, "c");
        run.need(0, "c:1");
        run.need(1, "c:[9]");
        run.need(1, "d:1");
        run.need(2, "d:1");
        Due.due("barred below b, not below a and c", run.resolve("a:1"), 4);
        run.dueEntries("d comes by c", "0 1 2 3");
        Due.due("parent of d", run.x.parent(3), 2);
        Due.due("the exclusions are of a's dependency, not of b", run.resolve("b:1"), -4);
        Due.due("culprit", run.x.culprit(), 8);
        run.exclude(0, "b");
        Due.due("an exclusion bars at the picked entry, not there", run.resolve("a:1"), 4);
    }

    private static void threeExclusions() {
        String[] names = {"c", "d", "e"};
        for (String name : names) {
            Run run = Run.of("a:1", "b:1", "f:1");
            run.need(0, "b:1");
            run.exclude(0, "c");
            run.exclude(0, "d");
            run.exclude(0, "e");
            run.need(1, name + ":1");
            run.need(1, "f:1");
            Due.due("each of three is barred, no other is: " + name, run.resolve("a:1"), 3);
            run.dueEntries("f is there", "0 1 2");
        }
    }

    private static void inheritedExclusions() {
        Run run = Run.of("a:1", "b:1", "c:1", "d:1", "e:1");
        run.need(0, "b:1");
        run.exclude(0, "x");
        run.need(1, "c:1");
        run.exclude(1, "y");
        run.need(2, "d:1");
        run.need(3, "x:1");
        run.need(3, "y:1");
        run.need(3, "a:[8]");
        Due.due("no bar on a", run.resolve("a:1"), -5);
        Due.due("culprit: x and y were barred", run.x.culprit(), 8 * 3 + 2);
        run.exclude(2, "a");
        Due.due("barred by all three", run.resolve("a:1"), 4);
        Due.due("from b on x is not barred", run.resolve("b:1"), -4);
        Due.due("culprit", run.x.culprit(), 8 * 3);
        run.publish("x:1");
        Due.due("y is, a is", run.resolve("b:1"), 4);
        run.dueEntries("x comes by d", "1 2 3 5");
        Due.due("a again", run.resolve("a:1"), 4);
        run.dueEntries("x is barred", "0 1 2 3");
    }

    private static void culpritIsKept() {
        Run run = Run.of("a:1", "b:1");
        run.need(1, "a:1");
        run.need(1, "c:1");
        Due.due("MISSING", run.resolve("b:1"), -4);
        Due.due("culprit", run.x.culprit(), 9);
        Due.due("BAD", run.resolve("b:"), -3);
        run.publish("z:1");
        run.compare("1:1");
        Due.due("culprit after BAD and other calls", run.x.culprit(), 9);
        Due.due("success", run.resolve("a:1"), 1);
        Due.due("culprit after success", run.x.culprit(), -1);
        run.resolve("b:1");
        Due.due("culprit again", run.x.culprit(), 9);
        Due.due("no root", run.resolve("a:2"), -4);
        Due.due("culprit without root", run.x.culprit(), -1);
        run.dueEntries("the RESULT stayed all the time", "0");
    }

    private static void twentyEntries() {
        Run run = new Run();
        for (int i = 0; i < 20; i++) {
            run.publish((char) ('a' + i) + ":1");
        }
        for (int i = 0; i < 19; i++) {
            run.need(i, (char) ('b' + i) + ":1");
        }
        run.need(19, "zz:1");
        Due.due("the last one's dependency", run.resolve("a:1"), -4);
        Due.due("culprit", run.x.culprit(), 8 * 19);
        run.exclude(0, "zz");
        Due.due("a chain of 20, barred from the top", run.resolve("a:1"), 20);
        Due.due("depth", run.x.depth(19), 19);
        Due.due("parent", run.x.parent(19), 18);
        Due.due("greatest depth", run.x.count(4), 19);
        Due.due("no entry 20", run.x.entry(20), -1);
    }
}
