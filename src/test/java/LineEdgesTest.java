/** The boundary cases of THE LINE and of promises 1 to 3, a test for each of the document's sentences. */
public final class LineEdgesTest {
    /** Too small, too large, and 'a' and ':' once a wrap-around at 256 is made. */
    private static final int[] NO_CHARACTERS = {
        -1, 256, 256 + 'a', 256 + ':', -256 + 'a', 65536 + 'a', Integer.MIN_VALUE, Integer.MIN_VALUE + 'a', Integer.MAX_VALUE};

    public static void main(String[] args) {
        fiveHundredAndTwelveCalls();
        lineOfForty();
        longestRightLine();
        readingEmpties();
        otherCallsDoNotRead();
        newObject();
        typeEnds();
        typeOutOfRange();
        typeFull();
        typeCounts();
        wipeEmpties();
        wipeCounts();
        Due.end();
    }

    private static void fiveHundredAndTwelveCalls() {
        Due.sentence("An object is used for at most 512 calls after it has been made");
        Run run = new Run();
        int calls = 0;
        for (int i = 0; i < 20; i++) {
            Due.due("publish " + i, run.publish((char) ('a' + i) + ":1"), i);
            calls += 4;
        }
        for (int i = 0; i < 19; i++) {
            Due.due("depend " + i, run.need(i, (char) ('b' + i) + ":1"), 0);
            calls += 4;
        }
        while (calls <= 512 - 5) {
            Due.due("resolve after " + calls, run.resolve("a:1"), 20);
            Due.due("entry after " + calls, run.x.entry(19), 19);
            calls += 5;
        }
        while (calls < 512) {
            calls++;
            Due.due("call " + calls, run.x.count(4), 19);
        }
    }

    private static void lineOfForty() {
        Due.sentence("THE LINE is a text of at most 40 characters, empty at first.");
        LayeredLauncher x = new LayeredLauncher();
        Due.due("characters at first", x.count(2), 0);
        for (int i = 1; i <= 50; i++) {
            x.type('1');
            Due.due("characters after " + i, x.count(2), Math.min(i, 40));
        }
        Due.due("wipe", x.wipe(), 40);
    }

    private static void longestRightLine() {
        Due.sentence("THE LINE is a text of at most 40 characters, empty at first.");
        Run run = Run.of("abcdefgh:123456789012");
        Due.due("36 characters are read whole", run.resolve("abcdefgh:[123456789011,123456789012]"), 1);
        Due.due("35 characters are read whole", run.resolve("abcdefgh:(12345678901,123456789012)"), -4);
        Due.due("an empty line", run.x.resolve(), -3);
    }

    private static void readingEmpties() {
        Due.sentence("Calls that read it make it empty, whatever they answer.");
        Run run = Run.of("a:1");
        emptied("publish, a number", run, run.publish("b:1"), 1);
        emptied("publish, REFUSED", run, run.publish("b:1"), -1);
        emptied("publish, BAD", run, run.publish("b:"), -3);
        emptied("exclude, REFUSED without a dependency", run, run.exclude(0, "c"), -1);
        emptied("exclude, REFUSED without an artifact", run, run.exclude(2, "c"), -1);
        emptied("depend, REFUSED", run, run.need(2, "c:1"), -1);
        emptied("depend, BAD", run, run.need(0, "c:"), -3);
        for (int k = 0; k < 6; k++) {
            emptied("depend, a place", run, run.need(0, "c:1"), k);
        }
        emptied("depend, FULL", run, run.need(0, "c:1"), -2);
        emptied("exclude, BAD", run, run.exclude(0, "c:"), -3);
        for (int i = 0; i < 3; i++) {
            emptied("exclude, OK", run, run.exclude(0, "d"), 0);
        }
        emptied("exclude, FULL", run, run.exclude(0, "d"), -2);
        emptied("compare, below", run, run.compare("1:2"), 2);
        emptied("compare, EQUAL", run, run.compare("1:1"), 3);
        emptied("compare, above", run, run.compare("2:1"), 4);
        emptied("compare, BAD", run, run.compare("2"), -3);
        emptied("resolve, MISSING with a culprit", run, run.resolve("a:1"), -4);
        emptied("resolve, MISSING without a culprit", run, run.resolve("c:1"), -4);
        emptied("resolve, BAD", run, run.resolve("c"), -3);
        emptied("resolve, a number", run, run.resolve("b:1"), 1);
        run.need(1, "b:[2]");
        emptied("resolve, CONFLICT", run, run.resolve("b:1"), -5);
        Run full = new Run();
        for (int i = 0; i < 20; i++) {
            full.publish("a:" + i);
        }
        emptied("publish, FULL", full, full.publish("b:1"), -2);
    }

    private static void emptied(String call, Run run, int got, int want) {
        Due.due(call, got, want);
        Due.due("characters after " + call, run.x.count(2), 0);
    }

    private static void otherCallsDoNotRead() {
        Due.sentence("Calls that read it make it empty, whatever they answer.");
        Run run = Run.of("a:1");
        run.resolve("a:1");
        run.typed("b:1");
        int[] answers = {
            run.x.type(-1), run.x.pack(0, 0, true), run.x.pack(1, 0, true), run.x.pack(0, 32, false), run.x.retire(0), run.x.retire(0),
            run.x.culprit(), run.x.entry(0), run.x.entry(1), run.x.depth(0), run.x.depth(1), run.x.parent(0), run.x.find(0, 0),
            run.x.find(1, 0), run.x.text(0, -1), run.x.text(0, 9), run.x.count(0), run.x.count(6)};
        int[] want = {-1, 0, -1, -1, 0, -1, -1, 0, -1, 0, -1, -1, 0, -1, 3, -1, 1, -1};
        for (int i = 0; i < want.length; i++) {
            Due.due("call " + i + " that does not read the line", answers[i], want[i]);
        }
        Due.due("characters after all of them", run.x.count(2), 3);
        Due.due("publish of what was typed before them", run.x.publish(), 1);
    }

    private static void newObject() {
        Due.sentence("An empty repository.");
        LayeredLauncher x = new LayeredLauncher();
        Due.due("artifacts", x.count(0), 0);
        Due.due("retired ones", x.count(1), 0);
        Due.due("text", x.text(0, 0), -1);
        Due.due("length of the text", x.text(0, -1), -1);
        Due.due("pack", x.pack(0, 0, true), -1);
        Due.due("retire", x.retire(0), -1);
        Run run = new Run();
        Due.due("depend", run.need(0, "a:1"), -1);
        Due.due("exclude", run.exclude(0, "a"), -1);
        Due.due("resolve", run.resolve("a:(,)"), -4);
        Due.due("the first artifact", run.publish("a:1"), 0);
    }

    private static void typeEnds() {
        Due.sentence("Puts a character 0 .. 255 at the end of the line.");
        LayeredLauncher x = new LayeredLauncher();
        Due.due("type 0", x.type(0), 1);
        Due.due("type 255", x.type(255), 2);
        Due.due("characters", x.count(2), 2);
        Run run = Run.of("bac:2.1");
        Due.due("text", run.text(0), "bac:2.1");
        for (int c = 0; c <= 255; c++) {
            boolean letter = c >= 'a' && c <= 'z';
            Run other = new Run();
            other.x.type(c);
            Due.due("publish a name of the character " + c, other.publish(":1"), letter ? 0 : -3);
            Due.due("its character", other.x.text(0, 0), letter ? c : -1);
        }
    }

    private static void typeOutOfRange() {
        Due.sentence("Out of range: REFUSED;");
        Run run = new Run();
        for (int c : NO_CHARACTERS) {
            Due.due("type " + c + " into an empty line", run.x.type(c), -1);
        }
        run.typed("a:1");
        for (int c : NO_CHARACTERS) {
            Due.due("type " + c, run.x.type(c), -1);
        }
        Due.due("characters", run.x.count(2), 3);
        Due.due("publish", run.x.publish(), 0);
        Due.due("text", run.text(0), "a:1");
        run.typed("1".repeat(40));
        for (int c : NO_CHARACTERS) {
            Due.due("type " + c + " with 40 there", run.x.type(c), -1);
        }
    }

    private static void typeFull() {
        Due.sentence("40 there: FULL.");
        Run run = new Run().typed("1".repeat(39));
        Due.due("type with 39 there", run.x.type('1'), 40);
        for (int c = 0; c <= 255; c += 51) {
            Due.due("type " + c + " with 40 there", run.x.type(c), -2);
        }
        Due.due("characters", run.x.count(2), 40);
        run.x.wipe();
        Due.due("type once the line was emptied", run.x.type('1'), 1);
        Run read = new Run().typed("1".repeat(41));
        Due.due("compare", read.x.compare(), -3);
        Due.due("type once the line was read", read.x.type('1'), 1);
    }

    private static void typeCounts() {
        Due.sentence("Else the number of characters.");
        LayeredLauncher x = new LayeredLauncher();
        for (int i = 1; i <= 40; i++) {
            Due.due("type number " + i, x.type(i % 3 == 0 ? 0 : 255), i);
        }
    }

    private static void wipeEmpties() {
        Due.sentence("The line becomes empty.");
        Run run = new Run().typed("a:1");
        run.x.wipe();
        Due.due("characters", run.x.count(2), 0);
        Due.due("publish after wipe", run.x.publish(), -3);
        run.typed("1".repeat(41));
        run.x.wipe();
        Due.due("characters of what was a full line", run.x.count(2), 0);
        Due.due("publish of what is typed now", run.publish("b:2"), 0);
        Due.due("text", run.text(0), "b:2");
    }

    private static void wipeCounts() {
        Due.sentence("How many characters it had.");
        Run run = new Run();
        Due.due("wipe of an empty line", run.x.wipe(), 0);
        for (int length = 1; length <= 40; length += 13) {
            Due.due("wipe of " + length, run.typed("0".repeat(length)).x.wipe(), length);
            Due.due("wipe again", run.x.wipe(), 0);
        }
        Due.due("wipe after 41", run.typed("0".repeat(41)).x.wipe(), 40);
        run.publish("a:1");
        Due.due("wipe after a call that read", run.x.wipe(), 0);
    }
}
