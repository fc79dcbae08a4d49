/** Promises 12 to 15 (entry, depth, parent, find) and 17 (count). */
public final class ResultTest {
    public static void main(String[] args) {
        outOfRange();
        layers();
        classesAsTheyAreNow();
        counts();
        sharedClasses();
        Due.end();
    }

    /** Entries: a at depth 0; b and c at 1; d (by b) and e (by c) at 2. */
    private static Run resolved() {
        Run run = Run.of("e:1", "d:1", "c:1", "b:1", "a:1");
        run.need(4, "b:1");
        run.need(4, "c:1");
        run.need(3, "d:1");
        run.need(2, "e:1");
        Due.due("resolve", run.resolve("a:1"), 5);
        run.dueEntries("all", "4 3 2 1 0");
        return run;
    }

    private static void outOfRange() {
        Run run = resolved();
        int[] none = {-1, 5, 20, Integer.MIN_VALUE, Integer.MAX_VALUE};
        for (int k : none) {
            Due.due("entry " + k, run.x.entry(k), -1);
            Due.due("depth " + k, run.x.depth(k), -1);
            Due.due("parent " + k, run.x.parent(k), -1);
        }
        Due.due("parent 0", run.x.parent(0), -1);
        Due.due("parent 1", run.x.parent(1), 0);
        Due.due("parent 4", run.x.parent(4), 2);
        Due.due("depth 0", run.x.depth(0), 0);
        Due.due("depth 4", run.x.depth(4), 2);
        run.x.pack(4, 0, true);
        int[] layers = {-1, 3, 20, Integer.MIN_VALUE, Integer.MAX_VALUE};
        for (int d : layers) {
            Due.due("find in layer " + d, run.x.find(d, 0), -1);
        }
        int[] outside = {-1, 32, 33, Integer.MIN_VALUE, Integer.MAX_VALUE};
        for (int cls : outside) {
            Due.due("find class " + cls, run.x.find(0, cls), -1);
        }
        Due.due("a smaller RESULT", run.resolve("e:1"), 1);
        Due.due("has no entry 1", run.x.entry(1) + run.x.depth(1) + run.x.parent(1), -3);
        Due.due("nor the old classes", run.x.find(0, 0), -1);
    }

    private static void layers() {
        Run run = resolved();
        run.x.pack(4, 7, true);
        Due.due("a alone, layer 0", run.x.find(0, 7), 0);
        Due.due("a alone, layer 1 does not see it", run.x.find(1, 7), -1);
        run.x.pack(2, 7, true);
        Due.due("c is deeper", run.x.find(0, 7), 2);
        run.x.pack(3, 7, true);
        Due.due("b is before c", run.x.find(0, 7), 1);
        Due.due("b in layer 1", run.x.find(1, 7), 1);
        Due.due("none in layer 2", run.x.find(2, 7), -1);
        run.x.pack(0, 7, true);
        for (int d = 0; d <= 2; d++) {
            Due.due("e is the deepest, layer " + d, run.x.find(d, 7), 4);
        }
        run.x.pack(1, 7, true);
        for (int d = 0; d <= 2; d++) {
            Due.due("d is before e, layer " + d, run.x.find(d, 7), 3);
        }
        Due.due("none in layer 3", run.x.find(3, 7), -1);
        Due.due("another class", run.x.find(0, 8), -1);
    }

    private static void classesAsTheyAreNow() {
        Run run = resolved();
        run.x.pack(1, 31, true);
        Due.due("find", run.x.find(0, 31), 3);
        run.x.retire(1);
        Due.due("retired, still found", run.x.find(0, 31), 3);
        run.publish("d:1");
        run.x.pack(5, 30, true);
        Due.due("the new d is no entry", run.x.find(0, 30), -1);
        run.x.pack(1, 31, false);
        Due.due("no more", run.x.find(0, 31), -1);
    }

    private static void counts() {
        Run run = resolved();
        run.x.retire(0);
        run.x.retire(3);
        run.typed("hello");
        int[] want = {5, 2, 5, 5, 2, 0};
        for (int what = 0; what < want.length; what++) {
            Due.due("count " + what, run.x.count(what), want[what]);
        }
        int[] none = {-1, 6, Integer.MIN_VALUE, Integer.MAX_VALUE};
        for (int what : none) {
            Due.due("count " + what, run.x.count(what), -1);
        }
        run.x.wipe();
        Due.due("resolve", run.resolve("d:1"), 1);
        Due.due("entries", run.x.count(3), 1);
        Due.due("greatest depth", run.x.count(4), 0);
    }

    private static void sharedClasses() {
        Run run = resolved();
        run.publish("other:1");
        for (int cls = 0; cls < 32; cls++) {
            run.x.pack(5, cls, true);
            run.x.pack(4, cls, true);
        }
        Due.due("one entry has each", run.x.count(5), 0);
        run.x.pack(0, 0, true);
        run.x.pack(1, 0, true);
        Due.due("three have class 0", run.x.count(5), 1);
        run.x.pack(1, 31, true);
        Due.due("two have class 31", run.x.count(5), 2);
        run.x.pack(4, 0, false);
        Due.due("two still have class 0", run.x.count(5), 2);
        run.x.pack(1, 0, false);
        Due.due("one has class 0", run.x.count(5), 1);
        run.x.pack(4, 0, true);
        for (int cls = 0; cls < 32; cls++) {
            run.x.pack(2, cls, true);
        }
        Due.due("all", run.x.count(5), 32);
        run.x.retire(2);
        Due.due("retired ones count", run.x.count(5), 32);
        run.resolve("b:1");
        Due.due("another RESULT", run.x.count(5), 0);
    }
}
