/** The boundary cases of LAYER and of promises 12 to 15 and 17, a test for each of the document's sentences. */
public final class ResultEdgesTest {
    /** Too small, too large for any RESULT, and a wrap-around of 0. */
    private static final int[] NO_ENTRIES = {-1, -2, 20, 21, 32, 256, 65536, Integer.MIN_VALUE, Integer.MIN_VALUE + 1, Integer.MAX_VALUE};
    private static final int[] NO_CLASSES = {-1, 32, 33, 63, 64, 256, -32, Integer.MIN_VALUE, Integer.MAX_VALUE};

    public static void main(String[] args) {
        layersSeen();
        entryOutOfRange();
        depthOutOfRange();
        parentOutOfRange();
        parentOfTheFirst();
        findTheDeepest();
        findTheFirst();
        findNow();
        findRefused();
        countsAtTheEnds();
        countShared();
        countElse();
        Due.end();
    }

    /** Entries 0 a at depth 0; 1 b and 2 c at 1; 3 d and 4 e at 2; their artifacts 5, 4, 3, 2, 1; artifact 0 is no entry. */
    private static Run resolved() {
        Run run = Run.of("other:1", "e:1", "d:1", "c:1", "b:1", "a:1");
        run.need(5, "b:1");
        run.need(5, "c:1");
        run.need(4, "d:1");
        run.need(3, "e:1");
        Due.due("resolve", run.resolve("a:1"), 5);
        return run;
    }

    private static void layersSeen() {
        Due.sentence("Layer d SEES the layers d, d + 1, and so on.");
        int[] artifacts = {5, 4, 3, 2, 1};
        int[] depths = {0, 1, 1, 2, 2};
        for (int k = 0; k < 5; k++) {
            Run run = resolved();
            run.x.pack(artifacts[k], 7, true);
            for (int d = 0; d <= 4; d++) {
                Due.due("entry " + k + " to layer " + d, run.x.find(d, 7), d <= depths[k] ? k : -1);
            }
        }
    }

    private static void entryOutOfRange() {
        Due.sentence("The artifact of entry k of the RESULT, from 0; REFUSED if there is no such entry.");
        Run run = resolved();
        Due.due("the first", run.x.entry(0), 5);
        Due.due("the last", run.x.entry(4), 1);
        Due.due("behind the last", run.x.entry(5), -1);
        for (int k : NO_ENTRIES) {
            Due.due("entry " + k, run.x.entry(k), -1);
            Due.due("entry " + k + " of an empty RESULT", new Run().x.entry(k), -1);
        }
        run.resolve("e:1");
        Due.due("the only one", run.x.entry(0), 1);
        Due.due("one of an earlier RESULT", run.x.entry(1), -1);
    }

    private static void depthOutOfRange() {
        Due.sentence("The depth of entry k; REFUSED if there is no such entry.");
        Run run = resolved();
        Due.due("the first", run.x.depth(0), 0);
        Due.due("the last", run.x.depth(4), 2);
        Due.due("behind the last", run.x.depth(5), -1);
        for (int k : NO_ENTRIES) {
            Due.due("depth " + k, run.x.depth(k), -1);
            Due.due("depth " + k + " of an empty RESULT", new Run().x.depth(k), -1);
        }
        Due.due("depth 0 of an empty RESULT", new Run().x.depth(0), -1);
        run.resolve("e:1");
        Due.due("the only one", run.x.depth(0), 0);
        Due.due("one of an earlier RESULT", run.x.depth(1), -1);
    }

    private static void parentOutOfRange() {
        Due.sentence("The parent of entry k, an entry number; REFUSED for 0 or if there is no such entry.");
        Run run = resolved();
        Due.due("the second", run.x.parent(1), 0);
        Due.due("the last", run.x.parent(4), 2);
        Due.due("behind the last", run.x.parent(5), -1);
        for (int k : NO_ENTRIES) {
            Due.due("parent " + k, run.x.parent(k), -1);
            Due.due("parent " + k + " of an empty RESULT", new Run().x.parent(k), -1);
        }
        run.resolve("e:1");
        Due.due("one of an earlier RESULT", run.x.parent(1), -1);
    }

    private static void parentOfTheFirst() {
        Due.sentence("The parent of entry k, an entry number; REFUSED for 0 or if there is no such entry.");
        Due.due("parent 0 of an empty RESULT", new Run().x.parent(0), -1);
        Run run = resolved();
        Due.due("parent 0", run.x.parent(0), -1);
        run.resolve("e:1");
        Due.due("parent 0 of one entry", run.x.parent(0), -1);
        Run turned = Run.of("a:1", "b:1");
        turned.need(0, "b:1");
        turned.need(1, "a:1");
        turned.resolve("a:1");
        Due.due("parent 0, though b needs a", turned.x.parent(0), -1);
    }

    private static void findTheDeepest() {
        Due.sentence("The entry that gives class 0 .. 31 to layer d: of the entries in the layers that layer d SEES"
                + " whose artifacts have the class now, the one of greatest depth, and of those the first.");
        int[] classes = {0, 31};
        for (int cls : classes) {
            Run run = resolved();
            run.x.pack(5, cls, true);
            Due.due("a alone", run.x.find(0, cls), 0);
            run.x.pack(3, cls, true);
            Due.due("c is deeper", run.x.find(0, cls), 2);
            run.x.pack(1, cls, true);
            Due.due("e is deeper", run.x.find(0, cls), 4);
            Due.due("e to layer 1", run.x.find(1, cls), 4);
            Due.due("e to its own layer", run.x.find(2, cls), 4);
        }
    }

    private static void findTheFirst() {
        Due.sentence("The entry that gives class 0 .. 31 to layer d: of the entries in the layers that layer d SEES"
                + " whose artifacts have the class now, the one of greatest depth, and of those the first.");
        int[] classes = {0, 31};
        for (int cls : classes) {
            Run run = resolved();
            run.x.pack(3, cls, true);
            run.x.pack(4, cls, true);
            Due.due("b is before c", run.x.find(0, cls), 1);
            Due.due("b is before c to their layer", run.x.find(1, cls), 1);
            run.x.pack(1, cls, true);
            run.x.pack(2, cls, true);
            for (int d = 0; d <= 2; d++) {
                Due.due("d is before e, to layer " + d, run.x.find(d, cls), 3);
            }
        }
    }

    private static void findNow() {
        Due.sentence("The entry that gives class 0 .. 31 to layer d: of the entries in the layers that layer d SEES"
                + " whose artifacts have the class now, the one of greatest depth, and of those the first.");
        Run run = resolved();
        run.x.pack(2, 9, true);
        Due.due("packed after resolve", run.x.find(0, 9), 3);
        run.x.pack(0, 9, true);
        Due.due("another one has it that is no entry", run.x.find(0, 9), 3);
        run.x.retire(2);
        Due.due("retired", run.x.find(0, 9), 3);
        run.x.pack(2, 9, false);
        Due.due("no more", run.x.find(0, 9), -1);
        run.x.pack(2, 9, true);
        Due.due("again", run.x.find(0, 9), 3);
    }

    private static void findRefused() {
        Due.sentence("d below 0, class out of range, or none: REFUSED.");
        Run run = resolved();
        for (int cls = 0; cls < 32; cls++) {
            Due.due("none " + cls, run.x.find(0, cls), -1);
            for (int artifact = 0; artifact < 6; artifact++) {
                run.x.pack(artifact, cls, true);
            }
        }
        int[] below = {-1, -2, -32, Integer.MIN_VALUE, Integer.MIN_VALUE + 1};
        for (int d : below) {
            Due.due("layer " + d, run.x.find(d, 0), -1);
        }
        int[] deeper = {3, 4, 20, 256, Integer.MAX_VALUE};
        for (int d : deeper) {
            Due.due("none in layer " + d, run.x.find(d, 0), -1);
        }
        for (int cls : NO_CLASSES) {
            Due.due("class " + cls, run.x.find(0, cls), -1);
            Due.due("class " + cls + " and a layer below 0", run.x.find(-1, cls), -1);
        }
        Due.due("class 0", run.x.find(0, 0), 3);
        Due.due("class 31", run.x.find(2, 31), 3);
        Run empty = Run.of("a:1");
        empty.x.pack(0, 0, true);
        Due.due("an empty RESULT", empty.x.find(0, 0), -1);
    }

    private static void countsAtTheEnds() {
        Due.sentence("0: artifacts, 1: retired ones, 2: characters in the line, 3: entries of the RESULT,"
                + " 4: its greatest depth (0 if it is empty), 5: classes 0 .. 31 that more than one entry's artifact has now.");
        for (int what = 0; what <= 5; what++) {
            Due.due("count " + what + " of a new object", new Run().x.count(what), 0);
        }
        Run run = new Run();
        for (int i = 0; i < 20; i++) {
            run.publish((char) ('a' + i) + ":1");
            Due.due("artifacts", run.x.count(0), i + 1);
        }
        for (int i = 0; i < 19; i++) {
            run.need(i, (char) ('b' + i) + ":1");
        }
        run.resolve("a:1");
        Due.due("entries of a chain", run.x.count(3), 20);
        Due.due("depth of a chain", run.x.count(4), 19);
        for (int i = 0; i < 20; i++) {
            run.x.retire(i);
            Due.due("retired ones", run.x.count(1), i + 1);
        }
        run.x.retire(0);
        Due.due("retired ones, none twice", run.x.count(1), 20);
        Due.due("artifacts, all retired", run.x.count(0), 20);
        run.typed("1".repeat(41));
        Due.due("characters", run.x.count(2), 40);
        Due.due("entries, all retired", run.x.count(3), 20);
        Run wide = resolved();
        Due.due("depth of five entries", wide.x.count(4), 2);
        wide.resolve("e:1");
        Due.due("depth of one entry", wide.x.count(4), 0);
    }

    private static void countShared() {
        Due.sentence("5: classes 0 .. 31 that more than one entry's artifact has now.");
        Run run = resolved();
        for (int cls = 0; cls < 32; cls++) {
            run.x.pack(0, cls, true);
            run.x.pack(5, cls, true);
        }
        Due.due("one entry has all, and one that is no entry", run.x.count(5), 0);
        run.x.pack(1, 0, true);
        Due.due("two have class 0", run.x.count(5), 1);
        run.x.pack(2, 0, true);
        run.x.pack(3, 0, true);
        Due.due("four have class 0", run.x.count(5), 1);
        run.x.pack(1, 31, true);
        Due.due("two have class 31", run.x.count(5), 2);
        for (int cls = 0; cls < 32; cls++) {
            run.x.pack(4, cls, true);
        }
        Due.due("two have all", run.x.count(5), 32);
        run.x.retire(5);
        Due.due("one of them retired", run.x.count(5), 32);
        run.x.pack(5, 9, false);
        Due.due("one has class 9 no more", run.x.count(5), 31);
        run.resolve("e:1");
        Due.due("one entry", run.x.count(5), 0);
    }

    private static void countElse() {
        Due.sentence("Else REFUSED.");
        Run run = resolved();
        int[] none = {-1, -2, 6, 7, 8, 16, 256, 65536, Integer.MIN_VALUE, Integer.MIN_VALUE + 1, Integer.MAX_VALUE};
        for (int what : none) {
            Due.due("count " + what, run.x.count(what), -1);
            Due.due("count " + what + " of a new object", new Run().x.count(what), -1);
        }
    }
}
