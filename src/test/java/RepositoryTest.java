/** Promises 4 to 8 (publish, depend, exclude, pack, retire) and 16 (text). */
public final class RepositoryTest {
    public static void main(String[] args) {
        publish();
        publishWrongLines();
        publishUntilFull();
        depend();
        dependWrongLines();
        exclude();
        pack();
        retire();
        text();
        Due.end();
    }

    private static void publish() {
        Run run = Run.of("a:1", "a:1.0.1", "abcdefgh:123456789-12", "b:1");
        Due.due("the same version", run.publish("a:1"), -1);
        Due.due("an EQUAL version", run.publish("a:1.0-0"), -1);
        Due.due("nothing was published", run.x.count(0), 4);
        Due.due("another name", run.publish("aa:1"), 4);
        run.x.retire(0);
        Due.due("as a retired one", run.publish("a:1.0"), 5);
        Due.due("no longer only retired ones", run.publish("a:1"), -1);
        run.x.pack(0, 3, true);
        run.need(0, "b:[1]");
        Due.due("the new one has no dependencies and no classes", run.resolve("a:1"), 1);
        Due.due("it is the new one", run.x.entry(0), 5);
        Due.due("no class", run.x.find(0, 3), -1);
    }

    private static void publishWrongLines() {
        String[] bad = {
            "", "a", "a:", ":1", "1:1", "a1:1", "A:1", "a :1", " a:1", "abcdefghi:1", "a:1:", "a:1:1", "a::1", "a:b", "a:.1",
            "a:1.", "a:1..1", "a:1234567890123", "a:[1]", "a:(,)", "a:1 ", "a.b:1", "a-b:1", "a1", "`:1", "{:1", "a;1"};
        for (String line : bad) {
            Run run = new Run();
            Due.due("publish " + line, run.publish(line), -3);
            Due.due("nothing by " + line, run.x.count(0), 0);
        }
        Due.due("longest", new Run().publish("zzzzzzzz:0.0.0.0.0.0a"), 0);
    }

    private static void publishUntilFull() {
        Run run = new Run();
        for (int i = 0; i < 20; i++) {
            Due.due("publish number " + i, run.publish("a:" + i), i);
        }
        Due.due("20 there", run.publish("b:1"), -2);
        Due.due("the line is empty after FULL", run.x.count(2), 0);
        Due.due("no artifact 20: text", run.x.text(20, 0), -1);
        Due.due("no artifact 20: pack", run.x.pack(20, 0, true), -1);
        Due.due("no artifact 20: retire", run.x.retire(20), -1);
        Due.due("no artifact 20: depend", run.need(20, "b:1"), -1);
        Due.due("20 there, an EQUAL one among them", run.publish("a:19.0"), -1);
        Due.due("20 there, wrong line", run.publish("b"), -3);
        run.x.retire(19);
        Due.due("a retired one still counts", run.publish("a:19"), -2);
        Due.due("artifacts", run.x.count(0), 20);
    }

    private static void depend() {
        Run run = Run.of("a:1", "b:1");
        int[] none = {-1, 2, 20, Integer.MIN_VALUE, Integer.MAX_VALUE};
        for (int artifact : none) {
            Due.due("depend " + artifact, run.need(artifact, "b:1"), -1);
            Due.due("depend, wrong line too, " + artifact, run.need(artifact, "b"), -1);
        }
        for (int k = 0; k < 6; k++) {
            Due.due("depend, place " + k, run.need(0, "b:1"), k);
        }
        Due.due("depend, 6 there", run.need(0, "b:1"), -2);
        Due.due("the line is empty after FULL", run.x.count(2), 0);
        Due.due("depend, 6 there and a wrong line", run.need(0, "b:"), -3);
        Due.due("the others have their own", run.mayNeed(1, "a:1"), 0);
        run.x.retire(1);
        Due.due("a retired one may get one", run.need(1, "c:1"), 1);
    }

    private static void dependWrongLines() {
        String[] good = {
            "b:1", "b:[1]", "b:[1,2]", "b:(1,2)", "b:[1,2)", "b:(1,2]", "b:[,]", "b:(,)", "b:[,)", "b:(,]", "b:[1,)", "b:(,2)",
            "b:[2,1]", "b:(1,1)", "abcdefgh:[0123456789ab,0.1.2.3.4.5a)", "zz:[1-a,1.b]"};
        for (String line : good) {
            Run run = Run.of("a:1");
            Due.due("depend " + line, run.need(0, line), 0);
        }
        String[] bad = {
            "", "b", "b:", ":1", ":[1]", "B:1", "b1:1", "abcdefghi:1", "b:[]", "b:()", "b:(1)", "b:[1)", "b:(1]", "b:[1", "b:1]",
            "b:[1,2", "b:1,2", "b:1,2]", "b:[", "b:(", "b:[,", "b:,", "b:]", "b:[,,]", "b:[1,,2]", "b:[1,2,3]", "b:[1,2]]", "b:[[1]",
            "b:[1]:", "b:[x,2]", "b:[1,x]", "b:[1.,2]", "b:[1,2.]", "b:[ ,2]", "b:[1, 2]", "b:{1}", "b:[1234567890123]",
            "b:[1234567890123,]", "b:[,1234567890123]", "b:[1][2]", "b:1:1", "b:[1,2]1", "b:1[", "b:[1:2]", "[1]"};
        for (String line : bad) {
            Run run = Run.of("a:1");
            Due.due("depend " + line, run.need(0, line), -3);
            Due.due("resolve " + line, run.resolve(line), -3);
            Due.due("no dependency by " + line, run.exclude(0, "c"), -1);
        }
    }

    private static void exclude() {
        Run run = Run.of("a:1", "b:1");
        Due.due("exclude, no dependency", run.exclude(0, "c"), -1);
        Due.due("exclude, no dependency, wrong line", run.exclude(0, ""), -1);
        int[] none = {-1, 2, Integer.MIN_VALUE, Integer.MAX_VALUE};
        for (int artifact : none) {
            Due.due("exclude " + artifact, run.exclude(artifact, "c"), -1);
        }
        run.need(0, "b:1");
        String[] bad = {"", "1", "c1", "c:", "c:1", "C", "abcdefghi", " c", "c ", "c,d", "c.d"};
        for (String line : bad) {
            Due.due("exclude " + line, run.exclude(0, line), -3);
        }
        Due.due("exclude the first", run.exclude(0, "c"), 0);
        Due.due("exclude the same again", run.exclude(0, "c"), 0);
        Due.due("exclude the third", run.exclude(0, "abcdefgh"), 0);
        Due.due("exclude, 3 there", run.exclude(0, "c"), -2);
        Due.due("the line is empty after FULL", run.x.count(2), 0);
        Due.due("exclude, 3 there, wrong line", run.exclude(0, "c1"), -3);
        run.need(0, "c:1");
        Due.due("exclude at the new last dependency", run.exclude(0, "d"), 0);
    }

    private static void pack() {
        Run run = Run.of("a:1", "b:1");
        run.need(0, "b:1");
        run.resolve("a:1");
        int[] none = {-1, 2, Integer.MIN_VALUE, Integer.MAX_VALUE};
        for (int artifact : none) {
            Due.due("pack " + artifact, run.x.pack(artifact, 0, true), -1);
        }
        int[] outside = {-1, 32, 33, 64, Integer.MIN_VALUE, Integer.MAX_VALUE};
        for (int cls : outside) {
            Due.due("pack class " + cls, run.x.pack(0, cls, true), -1);
        }
        for (int cls = 0; cls < 32; cls++) {
            Due.due("not packed " + cls, run.x.find(0, cls), -1);
            Due.due("pack " + cls, run.x.pack(1, cls, true), 0);
            Due.due("pack again " + cls, run.x.pack(1, cls, true), 0);
            Due.due("packed " + cls, run.x.find(0, cls), 1);
        }
        for (int cls = 0; cls < 32; cls += 31) {
            Due.due("unpack " + cls, run.x.pack(1, cls, false), 0);
            Due.due("unpack again " + cls, run.x.pack(1, cls, false), 0);
            Due.due("unpacked " + cls, run.x.find(0, cls), -1);
        }
        Due.due("the neighbours stay", run.x.find(0, 1) + run.x.find(0, 30), 2);
        run.x.retire(1);
        Due.due("a retired one may be packed", run.x.pack(1, 0, true), 0);
        Due.due("and is seen", run.x.find(0, 0), 1);
    }

    private static void retire() {
        Run run = Run.of("a:1", "a:2");
        int[] none = {-1, 2, Integer.MIN_VALUE, Integer.MAX_VALUE};
        for (int artifact : none) {
            Due.due("retire " + artifact, run.x.retire(artifact), -1);
        }
        run.resolve("a:[1,]");
        Due.due("retire", run.x.retire(1), 0);
        Due.due("retire again", run.x.retire(1), -1);
        Due.due("retired ones", run.x.count(1), 1);
        Due.due("artifacts stay", run.x.count(0), 2);
        run.dueEntries("the RESULT stays", "1");
        run.resolve("a:[1,]");
        run.dueEntries("the retired one is no PICK", "0");
    }

    private static void text() {
        String[] artifacts = {"a:1", "abcdefgh:1.2-3a4", "z:01.0"};
        Run run = Run.of(artifacts);
        for (int a = 0; a < artifacts.length; a++) {
            Due.due("characters of " + a, run.x.text(a, -1), artifacts[a].length());
            for (int i = 0; i < artifacts[a].length(); i++) {
                Due.due("text " + a + " " + i, run.x.text(a, i), artifacts[a].charAt(i));
            }
            Due.due("behind the end", run.x.text(a, artifacts[a].length()), -1);
            Due.due("text -2", run.x.text(a, -2), -1);
            Due.due("text least", run.x.text(a, Integer.MIN_VALUE), -1);
            Due.due("text greatest", run.x.text(a, Integer.MAX_VALUE), -1);
        }
        int[] none = {-1, 3, Integer.MIN_VALUE, Integer.MAX_VALUE};
        for (int artifact : none) {
            Due.due("text of " + artifact, run.x.text(artifact, 0), -1);
            Due.due("length of " + artifact, run.x.text(artifact, -1), -1);
        }
        run.x.retire(0);
        run.typed("another:9");
        Due.due("text of a retired one, another line typed", run.x.text(0, 0), 'a');
    }
}
