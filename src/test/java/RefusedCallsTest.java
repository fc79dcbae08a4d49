import java.util.ArrayList;
import java.util.List;
import java.util.function.Consumer;
import java.util.function.Function;
import java.util.function.Supplier;
import java.util.function.ToIntFunction;

/**
 * "A refused call (an answer below 0) changes nothing, but that the line may become empty, and resolve notes
 * the culprit." Each refused call is made on one of two objects that were made alike, and then all that can be
 * asked of them must be answered alike.
 */
public final class RefusedCallsTest {
    /** Each shows another side, with an object of its own, as none may be asked more than 512 times. */
    private static final List<Function<Run, String>> SIDES = List.of(
            RefusedCallsTest::result, RefusedCallsTest::classes, RefusedCallsTest::texts, RefusedCallsTest::dependencies,
            RefusedCallsTest::exclusions, RefusedCallsTest::picks, RefusedCallsTest::retired, RefusedCallsTest::published);

    private record Refusal(String call, int answer, ToIntFunction<Run> made) {
    }

    public static void main(String[] args) {
        Due.sentence("A refused call (an answer below 0) changes nothing, but that the line may become empty,"
                + " and resolve notes the culprit.");
        for (Refusal refusal : callsThatReadNothing()) {
            changesNothing(RefusedCallsTest::busy, run -> run.typed("zz:"), refusal);
            changesNothing(RefusedCallsTest::full, run -> run.typed("zz:"), refusal);
        }
        for (Refusal refusal : callsThatRead()) {
            changesNothing(RefusedCallsTest::busy, run -> { }, refusal);
        }
        for (Refusal refusal : callsOnAFullRepository()) {
            changesNothing(RefusedCallsTest::full, run -> { }, refusal);
        }
        aFullLineStays();
        theCulpritIsNoted();
        Due.end();
    }

    private static void changesNothing(Supplier<Run> maker, Consumer<Run> before, Refusal refusal) {
        for (Function<Run, String> side : SIDES) {
            Run untouched = maker.get();
            Run touched = maker.get();
            before.accept(untouched);
            before.accept(touched);
            Due.due(refusal.call, refusal.made.applyAsInt(touched), refusal.answer);
            Due.due("culprit after " + refusal.call, touched.x.culprit(), untouched.x.culprit());
            Due.due("what is seen after " + refusal.call, side.apply(touched), side.apply(untouched));
        }
    }

    private static List<Refusal> callsThatReadNothing() {
        List<Refusal> calls = new ArrayList<>();
        for (int c : new int[] {-1, 256, 256 + 'a', Integer.MIN_VALUE, Integer.MAX_VALUE}) {
            calls.add(new Refusal("type " + c, -1, run -> run.x.type(c)));
            calls.add(new Refusal("count " + c, -1, run -> run.x.count(c)));
            calls.add(new Refusal("entry " + c, -1, run -> run.x.entry(c)));
            calls.add(new Refusal("depth " + c, -1, run -> run.x.depth(c)));
            calls.add(new Refusal("parent " + c, -1, run -> run.x.parent(c)));
            calls.add(new Refusal("find 0 " + c, -1, run -> run.x.find(0, c)));
            calls.add(new Refusal("text of " + c, -1, run -> run.x.text(c, 0)));
            calls.add(new Refusal("retire " + c, -1, run -> run.x.retire(c)));
            calls.add(new Refusal("pack " + c, -1, run -> run.x.pack(c, 0, true)));
            calls.add(new Refusal("pack a class " + c, -1, run -> run.x.pack(0, c, true)));
            calls.add(new Refusal("pack off a class " + c, -1, run -> run.x.pack(0, c, false)));
        }
        calls.add(new Refusal("pack class 32", -1, run -> run.x.pack(0, 32, true)));
        calls.add(new Refusal("pack off class 33", -1, run -> run.x.pack(1, 33, false)));
        calls.add(new Refusal("pack artifact 20", -1, run -> run.x.pack(20, 1, true)));
        calls.add(new Refusal("retire a retired one", -1, run -> run.x.retire(5)));
        calls.add(new Refusal("retire artifact 20", -1, run -> run.x.retire(20)));
        calls.add(new Refusal("parent 0", -1, run -> run.x.parent(0)));
        calls.add(new Refusal("find in layer -1", -1, run -> run.x.find(-1, 0)));
        calls.add(new Refusal("find in layer 20", -1, run -> run.x.find(20, 0)));
        calls.add(new Refusal("text -2", -1, run -> run.x.text(0, -2)));
        calls.add(new Refusal("text behind the end", -1, run -> run.x.text(0, 3)));
        return calls;
    }

    private static List<Refusal> callsThatRead() {
        List<Refusal> calls = new ArrayList<>();
        for (String line : new String[] {"", "a", "q:", "q:1.", "q:1:1", "Q:1", "abcdefghi:1"}) {
            calls.add(new Refusal("publish " + line, -3, run -> run.publish(line)));
            calls.add(new Refusal("depend " + line, -3, run -> run.need(2, line)));
            calls.add(new Refusal("depend, 6 there, " + line, -3, run -> run.need(0, line)));
            calls.add(new Refusal("compare " + line, -3, run -> run.compare(line)));
            calls.add(new Refusal("resolve " + line, -3, run -> run.resolve(line)));
        }
        for (String line : new String[] {"", "q:", "q1", "abcdefghi"}) {
            calls.add(new Refusal("exclude " + line, -3, run -> run.exclude(1, line)));
        }
        calls.add(new Refusal("publish an EQUAL one", -1, run -> run.publish("b:1.0")));
        calls.add(new Refusal("depend of -1", -1, run -> run.need(-1, "q:1")));
        calls.add(new Refusal("depend of one too many", -1, run -> run.mayNeed(7, "q:1")));
        calls.add(new Refusal("depend, 6 there", -2, run -> run.need(0, "q:1")));
        calls.add(new Refusal("exclude at -1", -1, run -> run.exclude(-1, "c")));
        calls.add(new Refusal("exclude at one too many", -1, run -> run.exclude(7, "c")));
        calls.add(new Refusal("exclude without a dependency", -1, run -> run.exclude(4, "c")));
        calls.add(new Refusal("exclude, 3 there", -2, run -> run.exclude(0, "c")));
        return calls;
    }

    private static List<Refusal> callsOnAFullRepository() {
        List<Refusal> calls = new ArrayList<>();
        calls.add(new Refusal("publish, 20 there", -2, run -> run.publish("z:1")));
        calls.add(new Refusal("publish a retired one's, 20 there", -2, run -> run.publish("f:1")));
        calls.add(new Refusal("publish an EQUAL one, 20 there", -1, run -> run.publish("a:1.0")));
        calls.add(new Refusal("publish a wrong line, 20 there", -3, run -> run.publish("q:")));
        calls.add(new Refusal("depend of artifact 20", -1, run -> run.need(20, "a:1")));
        calls.add(new Refusal("exclude at artifact 20", -1, run -> run.exclude(20, "a")));
        return calls;
    }

    /** A RESULT of four layers, a culprit, six dependencies, three EXCLUSIONS, classes, and one retired artifact. */
    private static Run busy() {
        Run run = Run.of("a:1", "b:1", "c:1", "d:1", "e:1", "f:1", "g:1");
        run.need(0, "b:1");
        run.need(1, "c:[1,2]");
        run.need(2, "d:(,)");
        run.exclude(1, "e");
        run.need(3, "e:1");
        for (int i = 0; i < 5; i++) {
            run.mayNeed(0, "b:1");
        }
        for (int i = 0; i < 3; i++) {
            run.exclude(0, "x");
        }
        run.x.pack(1, 0, true);
        run.x.pack(3, 0, true);
        run.x.pack(2, 31, true);
        run.x.retire(5);
        Due.due("resolve", run.resolve("a:1"), 4);
        run.need(6, "a:1");
        run.need(6, "a:[2]");
        Due.due("resolve with a culprit", run.resolve("g:1"), -5);
        return run;
    }

    /** The artifacts a:1 to t:1, of which f:1 is retired, and a RESULT. */
    private static Run full() {
        Run run = new Run();
        for (int i = 0; i < 20; i++) {
            run.publish((char) ('a' + i) + ":1");
        }
        run.need(0, "b:1");
        run.need(1, "t:1");
        run.x.pack(19, 31, true);
        run.x.pack(0, 0, true);
        run.x.retire(5);
        Due.due("resolve", run.resolve("a:1"), 3);
        return run;
    }

    private static String result(Run run) {
        StringBuilder seen = new StringBuilder();
        for (int what = 0; what <= 5; what++) {
            seen.append(' ').append(run.x.count(what));
        }
        for (int k = 0; k < 20; k++) {
            seen.append(' ').append(run.x.entry(k)).append(' ').append(run.x.depth(k)).append(' ').append(run.x.parent(k));
        }
        return seen.append(" wipe ").append(run.x.wipe()).toString();
    }

    private static String classes(Run run) {
        StringBuilder seen = new StringBuilder();
        for (int cls = 0; cls < 32; cls++) {
            for (int d = 0; d <= 3; d++) {
                seen.append(' ').append(run.x.find(d, cls));
            }
        }
        return seen.toString();
    }

    private static String texts(Run run) {
        StringBuilder seen = new StringBuilder();
        for (int artifact = 0; artifact < 20; artifact++) {
            seen.append(' ').append(run.text(artifact));
        }
        return seen.toString();
    }

    /** depend answers how many there were. */
    private static String dependencies(Run run) {
        run.x.wipe();
        StringBuilder seen = new StringBuilder();
        for (int artifact = 0; artifact < 20; artifact++) {
            seen.append(' ').append(run.need(artifact, "q:1"));
        }
        return seen.toString();
    }

    /** exclude answers FULL once there are 3. */
    private static String exclusions(Run run) {
        run.x.wipe();
        StringBuilder seen = new StringBuilder();
        for (int artifact = 0; artifact < 20; artifact++) {
            for (int i = 0; i < 4; i++) {
                seen.append(' ').append(run.exclude(artifact, "q"));
            }
        }
        return seen.toString();
    }

    private static String picks(Run run) {
        run.x.wipe();
        StringBuilder seen = new StringBuilder();
        for (char name = 'a'; name <= 'j'; name++) {
            seen.append(' ').append(run.resolve(name + ":(,)")).append(' ').append(run.x.culprit());
            seen.append(" (").append(run.entries()).append(')');
        }
        return seen.toString();
    }

    private static String retired(Run run) {
        StringBuilder seen = new StringBuilder();
        for (int artifact = 0; artifact < 20; artifact++) {
            seen.append(' ').append(run.x.retire(artifact));
        }
        return seen.toString();
    }

    /** What stands in the line is read first, and then every version of before is published again. */
    private static String published(Run run) {
        StringBuilder seen = new StringBuilder().append(run.publish("7"));
        for (char name = 'a'; name <= 't'; name++) {
            seen.append(' ').append(run.publish(name + ":1"));
        }
        return seen.append(' ').append(run.x.count(0)).toString();
    }

    private static void aFullLineStays() {
        Run run = new Run().typed("1".repeat(40));
        Due.due("type, 40 there", run.x.type('1'), -2);
        Due.due("type out of range, 40 there", run.x.type(256), -1);
        Due.due("characters", run.x.count(2), 40);
    }

    /** A resolve that is MISSING or CONFLICT changes the culprit and nothing else. */
    private static void theCulpritIsNoted() {
        String[] lines = {"q:1", "a:2", "f:1", "e:1", "g:1"};
        int[] answers = {-4, -4, -4, -4, -5};
        int[] culprits = {-1, -1, -1, 8 * 4, 8 * 6 + 1};
        for (int i = 0; i < lines.length; i++) {
            for (Function<Run, String> side : SIDES) {
                Run untouched = withMissing();
                Run touched = withMissing();
                Due.due("resolve " + lines[i], touched.resolve(lines[i]), answers[i]);
                Due.due("culprit after " + lines[i], touched.x.culprit(), culprits[i]);
                Due.due("what is seen after resolve " + lines[i], side.apply(touched), side.apply(untouched));
            }
        }
    }

    private static Run withMissing() {
        Run run = busy();
        run.need(4, "q:1");
        return run;
    }
}
