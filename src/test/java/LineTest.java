/** Promises 1 to 3 (a new object, type, wipe), and that calls that read the line empty it. */
public final class LineTest {
    public static void main(String[] args) {
        newObject();
        type();
        wipe();
        readingEmptiesTheLine();
        fullLines();
        anOldLineIsForgotten();
        otherCallsKeepTheLine();
        Due.end();
    }

    private static void newObject() {
        LayeredLauncher x = new LayeredLauncher();
        for (int what = 0; what <= 5; what++) {
            Due.due("new: count " + what, x.count(what), 0);
        }
        Due.due("new: culprit", x.culprit(), -1);
        Due.due("new: entry 0", x.entry(0), -1);
        Due.due("new: depth 0", x.depth(0), -1);
        Due.due("new: parent 0", x.parent(0), -1);
        Due.due("new: parent 1", x.parent(1), -1);
        Due.due("new: find", x.find(0, 0), -1);
        Due.due("new: text", x.text(0, -1), -1);
        Due.due("new: pack", x.pack(0, 0, true), -1);
        Due.due("new: retire", x.retire(0), -1);
        Due.due("new: wipe", x.wipe(), 0);
        Run other = Run.of("a:1");
        other.typed("xy");
        Due.due("an object shares nothing with another: artifacts", x.count(0), 0);
        Due.due("an object shares nothing with another: line", x.count(2), 0);
    }

    private static void type() {
        LayeredLauncher x = new LayeredLauncher();
        int[] outside = {-1, 256, Integer.MIN_VALUE, Integer.MAX_VALUE};
        for (int c : outside) {
            Due.due("type " + c, x.type(c), -1);
        }
        Due.due("nothing typed", x.count(2), 0);
        for (int i = 0; i < 40; i++) {
            Due.due("type number " + i, x.type(i % 2 == 0 ? 0 : 255), i + 1);
        }
        Due.due("type, 40 there", x.type(97), -2);
        Due.due("type, out of range and 40 there", x.type(256), -1);
        Due.due("characters in a full line", x.count(2), 40);
        LayeredLauncher y = new LayeredLauncher();
        for (int c = 0; c <= 255; c++) {
            Due.due("type " + c, y.type(c), 1);
            y.wipe();
        }
    }

    private static void wipe() {
        Run run = new Run().typed("a:1");
        Due.due("wipe", run.x.wipe(), 3);
        Due.due("wipe again", run.x.wipe(), 0);
        Due.due("publish after wipe", run.publish("b:2"), 0);
        Due.due("text after wipe", run.x.text(0, 0), 'b');
        run.typed("0123456789012345678901234567890123456789012");
        Due.due("wipe of a full line", run.x.wipe(), 40);
        Due.due("type after wipe", run.x.type(97), 1);
    }

    private static void readingEmptiesTheLine() {
        Run run = new Run();
        int[] answers = {
            run.publish("a:1"), run.x.count(2), run.publish("a:1"), run.x.count(2), run.publish("a"), run.x.count(2),
            run.need(7, "b:1"), run.x.count(2), run.need(0, "b:"), run.x.count(2),
            run.exclude(0, "c"), run.x.count(2),
            run.need(0, "b:1"), run.x.count(2),
            run.exclude(0, "c1"), run.x.count(2), run.exclude(0, "c"), run.x.count(2), run.exclude(7, "c"), run.x.count(2),
            run.compare("1:2"), run.x.count(2), run.compare("1;2"), run.x.count(2),
            run.resolve("a:1"), run.x.count(2), run.resolve("z:1"), run.x.count(2), run.resolve("a 1"), run.x.count(2)};
        int[] want = {
            0, 0, -1, 0, -3, 0,
            -1, 0, -3, 0,
            -1, 0,
            0, 0,
            -3, 0, 0, 0, -1, 0,
            2, 0, -3, 0,
            -4, 0, -4, 0, -3, 0};
        for (int i = 0; i < want.length; i++) {
            Due.due("emptied line, answer " + i, answers[i], want[i]);
        }
    }

    private static void fullLines() {
        String[] starts = {"1", "a", "a:1", "a:[1", "a:(1,1", "a:[,1", "a:[1]", "a:[1,2]", ":", "1:1"};
        String[] fillings = {"1", "a", ",", ":"};
        for (String start : starts) {
            for (String filling : fillings) {
                Run run = Run.of("a:1");
                run.need(0, "b:1");
                String line = start + filling.repeat(40 - start.length());
                Due.due("publish " + line, run.publish(line), -3);
                Due.due("depend " + line, run.need(0, line), -3);
                Due.due("exclude " + line, run.exclude(0, line), -3);
                Due.due("compare " + line, run.compare(line), -3);
                Due.due("resolve " + line, run.resolve(line), -3);
            }
        }
    }

    private static void anOldLineIsForgotten() {
        Run run = Run.of("a:1");
        run.need(0, "b:[1,2]");
        Due.due("the old line had the bracket", run.need(0, "b:[1,2"), -3);
        Due.due("the old line had the bound", run.need(0, "b:[1,"), -3);
        Due.due("the old line had the version", run.publish("b:"), -3);
        Due.due("the old line had the colon", run.publish("b"), -3);
        run.compare("1:234");
        Due.due("the old version was longer", run.compare("3:2"), 4);
        Due.due("the old line had the colon", run.compare("1"), -3);
        run.typed("abc").x.wipe();
        Due.due("nothing of a wiped line", run.exclude(0, ""), -3);
    }

    private static void otherCallsKeepTheLine() {
        Run run = Run.of("a:1");
        run.resolve("a:1");
        run.typed("b:");
        run.x.type(300);
        run.x.pack(0, 1, true);
        run.x.pack(9, 1, true);
        run.x.culprit();
        run.x.entry(0);
        run.x.depth(0);
        run.x.parent(0);
        run.x.find(0, 1);
        run.x.text(0, 0);
        run.x.count(2);
        run.x.retire(0);
        run.x.retire(0);
        Due.due("the line is kept", run.x.count(2), 2);
        Due.due("and goes on", run.publish("2"), 1);
    }
}
