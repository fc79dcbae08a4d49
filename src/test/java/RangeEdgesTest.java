/** The boundary cases of RANGE, WISH and THE PICK, a test for each of the document's sentences. */
public final class RangeEdgesTest {
    public static void main(String[] args) {
        forms();
        wrongForms();
        just();
        bounds();
        nothingSetsNoBound();
        wish();
        pickOfAName();
        pickOfNone();
        pickIsNotRetired();
        pickIsTheGreatest();
        noTwoAreEqual();
        Due.end();
    }

    private static void forms() {
        Due.sentence("RANGE: a VERSION v (a WISH); or [v] ; or one of [ ( , then a VERSION or nothing, then a comma,"
                + " then a VERSION or nothing, then one of ] ) .");
        String[] right = {
            "1", "[1]", "[1,2]", "[1,2)", "(1,2]", "(1,2)", "[,2]", "[,2)", "(,2]", "(,2)", "[1,]", "[1,)", "(1,]", "(1,)", "[,]", "[,)", "(,]",
            "(,)", "[2,1]", "(1,1)", "[1,1]", "[123456789012]", "(123456789012,123456789012)", "123456789012"};
        for (String range : right) {
            Run run = Run.of("a:1");
            Due.due("depend " + range, run.need(0, "q:" + range), 0);
            Due.due("resolve " + range, run.resolve("q:" + range), -4);
        }
    }

    private static void wrongForms() {
        Due.sentence("RANGE: a VERSION v (a WISH); or [v] ; or one of [ ( , then a VERSION or nothing, then a comma,"
                + " then a VERSION or nothing, then one of ] ) .");
        String[] wrong = {
            "", "(1)", "[1)", "(1]", "[]", "()", "[)", "(]", "[", "(", "]", ")", ",", "[,", "(,", ",]", ",)", "1,", ",1", "1,2", "1,2]", "1,2)",
            "[1,2", "(1,2", "[1", "(1", "1]", "1)", "[,,]", "[1,,2]", "[1,2,]", "[1,2,3]", "[[1]", "[1]]", "[1,2]]", "[(1,2)", "[1,2](", "([1]",
            "{1}", "<1,2>", "[1;2]", "[1:2]", "[1.2.]", "[1 ,2]", "[1, 2]", " [1]", "[1] ", "[1]1", "1[1]", "[1][1]", "[a]", "[a,1]", "[1,a]",
            "[1,2[", "]1,2[", ")1,2(", "[1,2}", "[1234567890123]", "[1234567890123,]", "[,1234567890123]", "[-,1]", "[1,.]", "[1..2,3]",
            "\\1]", "[1^", "*1,2)", "'1,2)"};
        for (String range : wrong) {
            Run run = Run.of("a:1");
            Due.due("depend " + range, run.need(0, "q:" + range), -3);
            Due.due("resolve " + range, run.resolve("q:" + range), -3);
        }
    }

    private static void just() {
        Due.sentence("[v] holds just the versions EQUAL to v.");
        held("[2]", "2", true);
        held("[2]", "2.0-0", true);
        held("[2.0]", "02", true);
        held("[2]", "2.0.0.0.1", false);
        held("[2]", "2a", false);
        held("[2]", "3", false);
        held("[2]", "1", false);
        held("[2a]", "2.a0", true);
        held("[2a]", "2", false);
    }

    private static void bounds() {
        Due.sentence("The others hold the versions that are above (after \"(\") or not below (after \"[\") the first"
                + " and below (before \")\") or not above (before \"]\") the second;");
        String[] ranges = {"[2,4]", "[2,4)", "(2,4]", "(2,4)"};
        for (int i = 0; i < ranges.length; i++) {
            boolean first = i < 2;
            boolean second = i % 2 == 0;
            held(ranges[i], "1", false);
            held(ranges[i], "2a", false);
            held(ranges[i], "2", first);
            held(ranges[i], "2.0", first);
            held(ranges[i], "2.1", true);
            held(ranges[i], "2.0.0.0.1", true);
            held(ranges[i], "3", true);
            held(ranges[i], "4a", true);
            held(ranges[i], "4", second);
            held(ranges[i], "4-0", second);
            held(ranges[i], "4.1", false);
            held(ranges[i], "5", false);
        }
        held("[2,2]", "2", true);
        held("[2,2)", "2", false);
        held("(2,2]", "2", false);
        held("(2,2)", "2", false);
        held("[4,2]", "3", false);
        held("[4,2]", "2", false);
        held("[4,2]", "4", false);
    }

    private static void nothingSetsNoBound() {
        Due.sentence("nothing sets no bound, and the bracket beside it makes no difference.");
        String[] versions = {"0a", "0", "1", "999999999999"};
        String[] opening = {"[", "("};
        String[] closing = {"]", ")"};
        for (String version : versions) {
            for (String from : opening) {
                for (String to : closing) {
                    held(from + "," + to, version, true);
                }
                held(from + ",1]", version, !version.equals("999999999999"));
                held(from + ",1)", version, version.startsWith("0"));
            }
            for (String to : closing) {
                held("[1," + to, version, !version.startsWith("0"));
                held("(1," + to, version, version.equals("999999999999"));
                held("[0," + to, version, !version.equals("0a"));
            }
        }
    }

    private static void wish() {
        Due.sentence("A WISH holds the versions EQUAL to v.");
        held("2", "2", true);
        held("2", "2.0", true);
        held("02-0", "2", true);
        held("2", "2.0.0.0.1", false);
        held("2", "2a", false);
        held("2", "3", false);
        held("2", "1", false);
    }

    /** If the RANGE holds the version, seen both by resolve and by a dependency. */
    private static void held(String range, String version, boolean want) {
        Run run = Run.of("a:1", "b:" + version);
        Due.due("resolve " + range + " with " + version, run.resolve("b:" + range), want ? 1 : -4);
        run.need(0, "b:" + range);
        Due.due("a dependency " + range + " with " + version, run.resolve("a:1"), want ? 2 : -4);
        Run present = Run.of("a:1", "b:" + version);
        present.need(0, "b:(,)");
        present.need(0, "b:" + range);
        boolean wished = range.indexOf('[') < 0 && range.indexOf('(') < 0;
        Due.due("an entry " + version + " for " + range, present.resolve("a:1"), want || wished ? 2 : -5);
    }

    private static void pickOfAName() {
        Due.sentence("THE PICK for a name and a RANGE: of the artifacts of that name that are not retired and whose version the RANGE holds,"
                + " the one with the greatest version.");
        Run run = Run.of("b:9", "a:1", "ab:8", "aa:7", "aaaaaaaa:6");
        run.resolve("a:(,)");
        run.dueEntries("no other name", "1");
        run.resolve("aaaaaaaa:(,)");
        run.dueEntries("a name of 8", "4");
    }

    private static void pickOfNone() {
        Due.sentence("THE PICK for a name and a RANGE: of the artifacts of that name that are not retired and whose version the RANGE holds,"
                + " the one with the greatest version.");
        Run run = Run.of("b:9", "a:1", "a:3");
        Due.due("no such name", run.resolve("c:(,)"), -4);
        Due.due("the RANGE is between them", run.resolve("a:(1,3)"), -4);
        run.x.retire(1);
        run.x.retire(2);
        Due.due("all are retired", run.resolve("a:(,)"), -4);
    }

    private static void pickIsNotRetired() {
        Due.sentence("THE PICK for a name and a RANGE: of the artifacts of that name that are not retired and whose version the RANGE holds,"
                + " the one with the greatest version.");
        Run run = Run.of("a:1", "a:2", "a:3");
        int[] want = {2, 1, 0};
        for (int pick : want) {
            Due.due("resolve", run.resolve("a:(,)"), 1);
            Due.due("the PICK", run.x.entry(0), pick);
            run.x.retire(pick);
        }
        Due.due("none is left", run.resolve("a:(,)"), -4);
    }

    private static void pickIsTheGreatest() {
        Due.sentence("THE PICK for a name and a RANGE: of the artifacts of that name that are not retired and whose version the RANGE holds,"
                + " the one with the greatest version.");
        String[] orders = {"1 2 3", "3 2 1", "2 3 1", "10 9 8", "9 10 8", "1a 1 1b", "1 1.0.1 1a", "2147483648 1 2", "1zz 1za 1z"};
        int[] greatest = {2, 0, 1, 0, 1, 1, 1, 0, 0};
        for (int i = 0; i < orders.length; i++) {
            String[] versions = orders[i].split(" ");
            Run run = Run.of("a:" + versions[0], "a:" + versions[1], "a:" + versions[2], "z:1");
            run.resolve("a:(,)");
            Due.due("the PICK of " + orders[i], run.x.entry(0), greatest[i]);
            run.need(3, "a:[0,]");
            run.resolve("z:1");
            Due.due("a dependency's PICK of " + orders[i], run.x.entry(1), greatest[i]);
        }
    }

    private static void noTwoAreEqual() {
        Due.sentence("(No two that are not retired have the same name and EQUAL versions.)");
        Run run = Run.of("a:1");
        Due.due("publish the same", run.publish("a:1"), -1);
        Due.due("publish an EQUAL one", run.publish("a:1.0"), -1);
        run.x.retire(0);
        Due.due("publish it, the first being retired", run.publish("a:1.0"), 1);
        Due.due("publish it once more", run.publish("a:1"), -1);
        run.resolve("a:1");
        run.dueEntries("the PICK", "1");
    }
}
