/** The boundary cases of ARTIFACTS and of promises 4 to 8 and 16, a test for each of the document's sentences. */
public final class RepositoryEdgesTest {
    public static void main(String[] args) {
        twentyArtifacts();
        sixDependencies();
        threeExclusions();
        publishWrongLines();
        publishEqual();
        publishFull();
        publishAnswers();
        dependWithoutArtifact();
        dependWrongLines();
        dependFull();
        dependAnswers();
        excludeRefused();
        excludeWrongLines();
        excludeFull();
        excludeTwice();
        packOnAndOff();
        packRefused();
        retireOnce();
        retireRefused();
        resultStays();
        textCharacters();
        textLength();
        textElse();
        Due.end();
    }

    /** Too small, too large for the count of artifacts, and a wrap-around of 0. */
    private static int[] noArtifacts(int count) {
        return new int[] {
            -1, -2, count, count + 1, 20, 21, 32, 256, 65536, Integer.MIN_VALUE, Integer.MIN_VALUE + 1, Integer.MAX_VALUE};
    }

    /** A run with 20 artifacts a:0 to a:19. */
    private static Run full() {
        Run run = new Run();
        for (int i = 0; i < 20; i++) {
            Due.due("publish number " + i, run.publish("a:" + i), i);
        }
        return run;
    }

    private static void twentyArtifacts() {
        Due.sentence("ARTIFACTS are numbered 0, 1, .. as they are published, at most 20.");
        Run run = full();
        Due.due("a 21st", run.publish("b:1"), -2);
        Due.due("artifacts", run.x.count(0), 20);
        Due.due("the first", run.text(0), "a:0");
        Due.due("the last", run.text(19), "a:19");
        Due.due("length of a 21st", run.x.text(20, -1), -1);
    }

    private static void sixDependencies() {
        Due.sentence("One has a name, a version, at most 6 DEPENDENCIES in an order, and a set of classes 0 .. 31.");
        Run run = Run.of("a:1", "b:1", "c:1", "d:1", "e:1", "f:1", "g:1", "h:1");
        String[] order = {"g", "b", "f", "c", "e", "d"};
        for (int k = 0; k < 6; k++) {
            Due.due("depend on " + order[k], run.need(0, order[k] + ":1"), k);
        }
        Due.due("a 7th", run.need(0, "h:1"), -2);
        Due.due("resolve", run.resolve("a:1"), 7);
        run.dueEntries("six in their order", "0 6 1 5 2 4 3");
    }

    private static void threeExclusions() {
        Due.sentence("A dependency has a name, a RANGE, is optional or not, and has at most 3 EXCLUSIONS, which are names.");
        Run run = Run.of("a:1", "b:1", "p:1", "q:1", "r:1", "s:1");
        run.need(0, "b:1");
        String[] names = {"p", "q", "r"};
        for (String name : names) {
            Due.due("exclude " + name, run.exclude(0, name), 0);
        }
        Due.due("a 4th", run.exclude(0, "s"), -2);
        for (int artifact = 2; artifact < 6; artifact++) {
            run.need(1, run.text(artifact));
        }
        Due.due("resolve", run.resolve("a:1"), 3);
        run.dueEntries("the three are barred, the fourth is not", "0 1 5");
    }

    private static void publishWrongLines() {
        Due.sentence("Reads the line: NAME, a colon, VERSION. It is not so: BAD.");
        String[] bad = {
            "", ":", "a", "a:", ":1", "1", "a1", "a;1", "a9:1", "a::1", ":a:1", "a:1:", "a:1:1", "a:1 ", " a:1", "a: 1", "abcdefghi:1", "A:1",
            "a:1234567890123", "a:b", "a:1.", "a:[1]", "a:(,)", "a:1,", "1:a", "1:1", "a".repeat(40), "a:" + "1".repeat(38), ":".repeat(40)};
        for (String line : bad) {
            Run run = new Run();
            Due.due("publish " + line, run.publish(line), -3);
            Due.due("artifacts", run.x.count(0), 0);
        }
        Run longest = Run.of("abcdefgh:123456789012");
        Due.due("the longest", longest.text(0), "abcdefgh:123456789012");
        Run full = full();
        Due.due("a wrong line with 20 artifacts", full.publish("a:"), -3);
    }

    private static void publishEqual() {
        Due.sentence("An artifact that is not retired has this name and an EQUAL version: REFUSED.");
        String[] equal = {"a:1", "a:01", "a:1.0", "a:1-0.0", "a:000000000001"};
        String[] other = {"aa:1", "b:1", "a:1a", "a:1.0.1", "a:0", "a:2", "a:10"};
        for (String line : equal) {
            Run run = Run.of("z:1", "a:1");
            Due.due("publish " + line, run.publish(line), -1);
            Due.due("artifacts", run.x.count(0), 2);
            run.x.retire(1);
            Due.due("publish " + line + ", the other one being retired", run.publish(line), 2);
            Due.due("publish " + line + " once more", run.publish(line), -1);
        }
        for (String line : other) {
            Due.due("publish " + line, Run.of("z:1", "a:1").publish(line), 2);
        }
        Run full = full();
        Due.due("an EQUAL one with 20 artifacts", full.publish("a:19.0"), -1);
    }

    private static void publishFull() {
        Due.sentence("20 artifacts: FULL.");
        Run run = full();
        Due.due("another name", run.publish("b:1"), -2);
        Due.due("another version", run.publish("a:20"), -2);
        for (int i = 0; i < 20; i++) {
            run.x.retire(i);
        }
        Due.due("all being retired", run.publish("b:1"), -2);
        Due.due("the version of a retired one", run.publish("a:1"), -2);
        Due.due("artifacts", run.x.count(0), 20);
        Due.due("the last", run.text(19), "a:19");
    }

    private static void publishAnswers() {
        Due.sentence("Else the new artifact's number; it has no dependencies and classes.");
        Run run = Run.of("a:1", "b:1");
        run.need(0, "b:[1]");
        run.x.pack(0, 0, true);
        run.x.pack(0, 31, true);
        run.x.retire(0);
        Due.due("publish in a retired one's stead", run.publish("a:1"), 2);
        Due.due("resolve", run.resolve("a:1"), 1);
        run.dueEntries("the new one", "2");
        Due.due("class 0", run.x.find(0, 0), -1);
        Due.due("class 31", run.x.find(0, 31), -1);
        Due.due("exclude without a dependency", run.exclude(2, "c"), -1);
        Due.due("its first dependency", run.need(2, "b:1"), 0);
    }

    private static void dependWithoutArtifact() {
        Due.sentence("artifact is no number of one: REFUSED.");
        Due.due("depend in a new object", new Run().need(0, "b:1"), -1);
        for (int artifact : noArtifacts(2)) {
            Run run = Run.of("a:1", "b:1");
            Due.due("depend " + artifact, run.need(artifact, "b:1"), -1);
            Due.due("depend with a wrong line " + artifact, run.need(artifact, "b:"), -1);
            Due.due("depend with an empty line " + artifact, run.mayNeed(artifact, ""), -1);
            Due.due("the first dependency of 0", run.need(0, "b:1"), 0);
            Due.due("the first dependency of 1", run.need(1, "b:1"), 0);
        }
        Run full = full();
        Due.due("depend 20 with 20 artifacts", full.need(20, "b:1"), -1);
        Due.due("depend 19 with 20 artifacts", full.need(19, "b:1"), 0);
        full.x.retire(18);
        Due.due("depend of a retired one", full.need(18, "b:1"), 0);
    }

    private static void dependWrongLines() {
        Due.sentence("The line is not so: BAD.");
        String[] bad = {
            "", ":", "b", "b:", ":1", ":[1]", "b1", "b;1", "b::1", "b:1:", "b:1:1", "b:1 ", " b:1", "abcdefghi:1", "B:1", "b:(1)", "b:[]", "b:[1",
            "b:1]", "b:[1,2", "b:c", "b:1234567890123", "[1]:b", "b[1]", "b".repeat(40), "b:[" + "1".repeat(37), ":".repeat(40)};
        for (String line : bad) {
            Run run = Run.of("a:1");
            Due.due("depend " + line, run.need(0, line), -3);
            Due.due("optional depend " + line, run.mayNeed(0, line), -3);
            Due.due("the first dependency", run.need(0, "b:1"), 0);
        }
        Run run = Run.of("a:1");
        Due.due("the longest", run.need(0, "abcdefgh:[123456789012,123456789012]"), 0);
        for (int k = 1; k < 6; k++) {
            run.need(0, "b:1");
        }
        Due.due("a wrong line with 6 dependencies", run.need(0, "b:"), -3);
    }

    private static void dependFull() {
        Due.sentence("It has 6 dependencies: FULL.");
        Run run = Run.of("a:1", "b:1", "c:1");
        for (int k = 0; k < 6; k++) {
            Due.due("depend number " + k, k % 2 == 0 ? run.need(0, "b:1") : run.mayNeed(0, "b:1"), k);
        }
        Due.due("a 7th", run.need(0, "c:1"), -2);
        Due.due("an optional 7th", run.mayNeed(0, "c:1"), -2);
        Due.due("another artifact's first", run.need(1, "c:1"), 0);
        run.x.retire(2);
        Due.due("a 7th again", run.need(0, "c:1"), -2);
        Due.due("resolve", run.resolve("a:1"), -4);
        Due.due("the 7th is not there, b's first is the culprit", run.x.culprit(), 8);
    }

    private static void dependAnswers() {
        Due.sentence("Else it gets one more, without EXCLUSIONS; answers its place, from 0.");
        Run run = Run.of("a:1", "b:1", "c:1", "d:1", "e:1");
        Due.due("the first place", run.need(0, "b:1"), 0);
        run.exclude(0, "e");
        Due.due("the second place", run.need(0, "c:1"), 1);
        run.need(2, "e:1");
        run.need(1, "e:[7]");
        Due.due("resolve", run.resolve("a:1"), 4);
        run.dueEntries("c's e is not excluded, b's is", "0 1 2 4");
        for (int i = 0; i < 3; i++) {
            Due.due("the new last one takes three", run.exclude(0, "d"), 0);
        }
        Due.due("the third place", run.mayNeed(0, "d:1"), 2);
        Due.due("it has none", run.exclude(0, "e"), 0);
    }

    private static void excludeRefused() {
        Due.sentence("artifact is no number of one, or it has no dependency: REFUSED.");
        Due.due("exclude in a new object", new Run().exclude(0, "c"), -1);
        for (int artifact : noArtifacts(2)) {
            Run run = Run.of("a:1", "b:1");
            run.need(0, "b:1");
            run.need(1, "a:1");
            Due.due("exclude " + artifact, run.exclude(artifact, "c"), -1);
            Due.due("exclude with a wrong line " + artifact, run.exclude(artifact, "c:"), -1);
            Due.due("exclude with an empty line " + artifact, run.exclude(artifact, ""), -1);
        }
        Run run = Run.of("a:1", "b:1");
        run.need(0, "b:1");
        Due.due("no dependency", run.exclude(1, "c"), -1);
        Due.due("no dependency, a wrong line", run.exclude(1, "1"), -1);
        Due.due("no dependency, an empty line", run.exclude(1, ""), -1);
        run.x.retire(0);
        Due.due("exclude at a retired one", run.exclude(0, "c"), 0);
        Run full = full();
        Due.due("exclude 20 with 20 artifacts", full.exclude(20, "c"), -1);
        full.need(19, "b:1");
        Due.due("exclude 19 with 20 artifacts", full.exclude(19, "c"), 0);
    }

    private static void excludeWrongLines() {
        Due.sentence("The line is not so: BAD.");
        String[] bad = {
            "", "abcdefghi", "1", "c1", "1c", "c:", ":c", "c:1", "C", "c ", " c", "c,d", "c.d", "c-d", "`", "{", "c".repeat(40), "c\0"};
        for (String line : bad) {
            Run run = Run.of("a:1");
            run.need(0, "b:1");
            Due.due("exclude " + line, run.exclude(0, line), -3);
            for (int i = 0; i < 3; i++) {
                Due.due("three are still to come", run.exclude(0, "c"), 0);
            }
            Due.due("exclude with 3 there " + line, run.exclude(0, line), -3);
        }
    }

    private static void excludeFull() {
        Due.sentence("Its last dependency has 3 EXCLUSIONS: FULL.");
        Run run = Run.of("a:1", "b:1");
        run.need(0, "b:1");
        run.need(1, "b:1");
        String[] names = {"c", "d", "abcdefgh"};
        for (String name : names) {
            Due.due("exclude " + name, run.exclude(0, name), 0);
        }
        Due.due("a 4th", run.exclude(0, "e"), -2);
        Due.due("a 4th that is there already", run.exclude(0, "c"), -2);
        Due.due("another artifact's", run.exclude(1, "e"), 0);
        run.need(0, "c:1");
        for (String name : names) {
            Due.due("exclude at the new last one " + name, run.exclude(0, name), 0);
        }
        Due.due("a 4th there", run.exclude(0, "e"), -2);
    }

    private static void excludeTwice() {
        Due.sentence("Else that gets the name too (it may have it already): OK.");
        Run run = Run.of("a:1", "b:1");
        run.need(0, "b:1");
        run.need(1, "c:1");
        Due.due("resolve before", run.resolve("a:1"), -4);
        Due.due("exclude", run.exclude(0, "c"), 0);
        Due.due("resolve", run.resolve("a:1"), 2);
        Due.due("the same again", run.exclude(0, "c"), 0);
        Due.due("the same a third time", run.exclude(0, "c"), 0);
        Due.due("each of them counted", run.exclude(0, "c"), -2);
        Due.due("resolve again", run.resolve("a:1"), 2);
    }

    private static void packOnAndOff() {
        Due.sentence("The artifact has the class 0 .. 31 from now on (on), or no more: OK.");
        int[] classes = {0, 1, 15, 16, 30, 31};
        for (int cls : classes) {
            Run run = Run.of("a:1", "b:1");
            run.resolve("a:1");
            Due.due("off before it was on " + cls, run.x.pack(0, cls, false), 0);
            Due.due("find", run.x.find(0, cls), -1);
            Due.due("on " + cls, run.x.pack(0, cls, true), 0);
            Due.due("on again " + cls, run.x.pack(0, cls, true), 0);
            for (int other = 0; other < 32; other++) {
                Due.due("find " + other + " with only " + cls, run.x.find(0, other), other == cls ? 0 : -1);
            }
            Due.due("another artifact's, off " + cls, run.x.pack(1, cls, false), 0);
            Due.due("find", run.x.find(0, cls), 0);
            Due.due("off " + cls, run.x.pack(0, cls, false), 0);
            Due.due("find", run.x.find(0, cls), -1);
        }
    }

    private static void packRefused() {
        Due.sentence("No such artifact, or class out of range: REFUSED.");
        Due.due("pack in a new object", new Run().x.pack(0, 0, true), -1);
        Run run = Run.of("a:1", "b:1");
        run.resolve("a:1");
        int[] outside = {-1, 32, 33, 63, 64, 256, -32, Integer.MIN_VALUE, Integer.MAX_VALUE};
        for (int artifact : noArtifacts(2)) {
            Due.due("pack " + artifact, run.x.pack(artifact, 0, true), -1);
            Due.due("pack off " + artifact, run.x.pack(artifact, 31, false), -1);
        }
        for (int cls : outside) {
            Due.due("pack class " + cls, run.x.pack(0, cls, true), -1);
            Due.due("pack off class " + cls, run.x.pack(0, cls, false), -1);
            Due.due("pack " + cls + " without an artifact", run.x.pack(2, cls, true), -1);
        }
        for (int cls = 0; cls < 32; cls++) {
            Due.due("find " + cls, run.x.find(0, cls), -1);
            run.x.pack(0, cls, true);
        }
        for (int cls : outside) {
            run.x.pack(0, cls, false);
        }
        for (int cls = 0; cls < 32; cls++) {
            Due.due("find " + cls, run.x.find(0, cls), 0);
        }
        Run full = full();
        Due.due("pack 20 with 20 artifacts", full.x.pack(20, 0, true), -1);
        Due.due("pack 19 with 20 artifacts", full.x.pack(19, 0, true), 0);
    }

    private static void retireOnce() {
        Due.sentence("The artifact is retired: OK.");
        Run run = full();
        Due.due("retire the first", run.x.retire(0), 0);
        Due.due("retired ones", run.x.count(1), 1);
        Due.due("retire the last", run.x.retire(19), 0);
        Due.due("retired ones", run.x.count(1), 2);
        Due.due("the last is no PICK", run.resolve("a:[19]"), -4);
        run.resolve("a:(,)");
        run.dueEntries("the PICK", "18");
    }

    private static void retireRefused() {
        Due.sentence("No such artifact, or it is retired: REFUSED.");
        Due.due("retire in a new object", new Run().x.retire(0), -1);
        Run run = Run.of("a:1", "b:1");
        for (int artifact : noArtifacts(2)) {
            Due.due("retire " + artifact, run.x.retire(artifact), -1);
        }
        Due.due("retired ones", run.x.count(1), 0);
        Due.due("retire", run.x.retire(0), 0);
        Due.due("retire again", run.x.retire(0), -1);
        Due.due("retire a third time", run.x.retire(0), -1);
        Due.due("retired ones", run.x.count(1), 1);
        Due.due("it is still retired", run.resolve("a:1"), -4);
        Run full = full();
        Due.due("retire 20 with 20 artifacts", full.x.retire(20), -1);
    }

    private static void resultStays() {
        Due.sentence("The RESULT stays.");
        Run run = Run.of("a:1", "b:1");
        run.need(0, "b:1");
        run.x.pack(1, 4, true);
        run.resolve("a:1");
        run.x.retire(0);
        run.x.retire(1);
        run.dueEntries("both retired", "0 1");
        Due.due("depth", run.x.depth(1), 1);
        Due.due("parent", run.x.parent(1), 0);
        Due.due("find", run.x.find(0, 4), 1);
        Due.due("entries", run.x.count(3), 2);
        Due.due("greatest depth", run.x.count(4), 1);
    }

    private static void textCharacters() {
        Due.sentence("Character i, from 0, of the artifact's name, a colon, and its version as published;");
        String[] artifacts = {"a:1", "z:01.0-0", "abcdefgh:123456789012", "b:0"};
        Run run = Run.of(artifacts);
        run.typed("other:9");
        run.x.retire(1);
        for (int artifact = 0; artifact < artifacts.length; artifact++) {
            String want = artifacts[artifact];
            for (int i = 0; i < want.length(); i++) {
                Due.due("text " + artifact + " " + i, run.x.text(artifact, i), want.charAt(i));
            }
        }
    }

    private static void textLength() {
        Due.sentence("for i = -1 how many there are;");
        Run run = Run.of("a:1", "abcdefgh:123456789012", "b:1.0");
        Due.due("the shortest", run.x.text(0, -1), 3);
        Due.due("the longest", run.x.text(1, -1), 21);
        Due.due("the last", run.x.text(2, -1), 5);
    }

    private static void textElse() {
        Due.sentence("else REFUSED.");
        Run run = Run.of("a:1", "abcdefgh:123456789012");
        int[] outside = {-2, -3, 21, 22, 40, 256, Integer.MIN_VALUE, Integer.MAX_VALUE};
        for (int i : outside) {
            Due.due("text 0 " + i, run.x.text(0, i), -1);
            Due.due("text 1 " + i, run.x.text(1, i), -1);
        }
        Due.due("behind the shorter one", run.x.text(0, 3), -1);
        for (int artifact : noArtifacts(2)) {
            Due.due("text of " + artifact, run.x.text(artifact, 0), -1);
            Due.due("length of " + artifact, run.x.text(artifact, -1), -1);
        }
        Due.due("text in a new object", new Run().x.text(0, 0), -1);
        Due.due("length in a new object", new Run().x.text(0, -1), -1);
    }
}
