/** The boundary cases of THE RESULT and RESOLVING and of promises 10 and 11, a test for each sentence. */
public final class ResolvingEdgesTest {
    public static void main(String[] args) {
        emptyResult();
        parentsAreEarlier();
        beginning();
        inTheirOrder();
        barredOrOptional();
        barsAreFirst();
        anEntryHasTheName();
        noPick();
        newLastEntry();
        barsAreHandedDown();
        firstTroubleEndsAll();
        resolveWrongLines();
        noRoot();
        culpritOfTrouble();
        resultStays();
        resultIsReplaced();
        answers();
        culpritAtFirst();
        culpritAfterBad();
        Due.end();
    }

    private static void emptyResult() {
        Due.sentence("THE RESULT is a list of ENTRIES, empty at first.");
        Run run = Run.of("a:1");
        Due.due("entries", run.x.count(3), 0);
        Due.due("entry 0", run.x.entry(0), -1);
        Due.due("depth 0", run.x.depth(0), -1);
        run.x.pack(0, 0, true);
        Due.due("find", run.x.find(0, 0), -1);
        run.resolve("a:9");
        Due.due("entries after a refused resolve", run.x.count(3), 0);
    }

    private static void parentsAreEarlier() {
        Due.sentence("An entry has an artifact, a depth, and, the first one apart, a parent, which is an earlier entry.");
        Run run = Run.of("d:1", "c:1", "b:1", "a:1");
        run.need(3, "b:1");
        run.need(3, "c:1");
        run.need(1, "d:1");
        run.need(0, "a:1");
        Due.due("resolve", run.resolve("a:1"), 4);
        run.dueEntries("a, b, c and d", "3 2 1 0");
        Due.due("the first one has none", run.x.parent(0), -1);
        Due.due("parent of b", run.x.parent(1), 0);
        Due.due("parent of c", run.x.parent(2), 0);
        Due.due("parent of d is an entry, not an artifact", run.x.parent(3), 2);
    }

    private static void beginning() {
        Due.sentence("RESOLVING a name and a RANGE: the entry list begins with their PICK, depth 0, barred names: none.");
        Run run = Run.of("a:1", "b:1", "a:2");
        run.need(2, "b:1");
        run.exclude(2, "b");
        run.exclude(2, "a");
        Due.due("resolve", run.resolve("a:(,)"), 2);
        run.dueEntries("the PICK bars nothing", "2 1");
        Due.due("depth", run.x.depth(0), 0);
        Run again = Run.of("c:1", "b:1", "a:1");
        again.need(0, "b:1");
        again.exclude(0, "a");
        again.need(1, "a:1");
        Due.due("b's a is barred below c", again.resolve("c:1"), 2);
        Due.due("but not if b is the first", again.resolve("b:1"), 2);
        again.dueEntries("b and a", "1 2");
    }

    private static void inTheirOrder() {
        Due.sentence("Then the entries are gone through in their order, also those that are added meanwhile,"
                + " and for each the dependencies of its artifact in their order:");
        Run run = Run.of("a:1", "b:1", "c:1", "d:1", "e:1", "f:1");
        run.need(0, "c:1");
        run.need(0, "b:1");
        run.need(2, "e:1");
        run.need(2, "d:1");
        run.need(1, "f:1");
        Due.due("resolve", run.resolve("a:1"), 6);
        run.dueEntries("layer after layer", "0 2 1 4 3 5");
        Run chain = new Run();
        for (int i = 0; i < 20; i++) {
            chain.publish((char) ('a' + i) + ":1");
        }
        for (int i = 0; i < 19; i++) {
            chain.need(i, (char) ('b' + i) + ":1");
        }
        Due.due("a chain of all 20", chain.resolve("a:1"), 20);
        Due.due("the last", chain.x.entry(19), 19);
        chain.need(19, "a:[2]");
        Due.due("the last one's dependency", chain.resolve("a:1"), -5);
        Due.due("culprit", chain.x.culprit(), 8 * 19);
    }

    private static void barredOrOptional() {
        Due.sentence("its name is one of the entry's barred names, or it is optional and the entry's depth is not 0: nothing;");
        Run run = Run.of("a:1", "b:1", "c:1");
        run.mayNeed(0, "b:1");
        run.mayNeed(1, "c:1");
        run.mayNeed(1, "q:1");
        run.mayNeed(1, "a:[2]");
        Due.due("optional at depth 0 counts, at depth 1 not", run.resolve("a:1"), 2);
        run.dueEntries("no c", "0 1");
        Due.due("at depth 0 it may be MISSING", run.resolve("b:1"), -4);
        Due.due("culprit", run.x.culprit(), 8 + 1);
        Run deep = Run.of("a:1", "b:1", "c:1", "d:1");
        deep.need(0, "b:1");
        deep.need(1, "c:1");
        deep.mayNeed(2, "d:1");
        Due.due("optional at depth 2", deep.resolve("a:1"), 3);
    }

    private static void barsAreFirst() {
        Due.sentence("its name is one of the entry's barred names, or it is optional and the entry's depth is not 0: nothing;");
        Run run = Run.of("a:1", "b:1", "c:1", "c:2");
        run.need(0, "c:1");
        run.need(0, "b:1");
        run.exclude(0, "q");
        run.exclude(0, "c");
        run.exclude(0, "a");
        run.need(1, "q:1");
        run.need(1, "c:[2]");
        run.need(1, "a:[9]");
        Due.due("neither MISSING nor CONFLICT", run.resolve("a:1"), 3);
        run.dueEntries("a, c and b", "0 2 1");
        run.need(1, "qq:1");
        Due.due("no other name is barred", run.resolve("a:1"), -4);
        Due.due("culprit", run.x.culprit(), 8 + 3);
    }

    private static void anEntryHasTheName() {
        Due.sentence("else an entry has an artifact of its name: if its RANGE is a WISH or holds that entry's version: nothing; else CONFLICT;");
        String[] agreeing = {"2", "1", "9", "[2]", "[2.0]", "[1,2]", "[2,3]", "(,)", "(1,3)", "[,2]", "[2,)"};
        String[] conflicting = {"[1]", "[3]", "(2,3]", "[1,2)", "(,2)", "(2,)", "[3,1]", "[2a]", "(2,2)"};
        for (String range : agreeing) {
            Due.due("b 2 and " + range, withEntryAnd(range).resolve("a:1"), 3);
        }
        for (String range : conflicting) {
            Run run = withEntryAnd(range);
            Due.due("b 2 and " + range, run.resolve("a:1"), -5);
            Due.due("culprit", run.x.culprit(), 8 * 2);
        }
        Run self = Run.of("a:1", "a:2");
        self.need(0, "a:[1]");
        Due.due("the entry itself has the name", self.resolve("a:1"), 1);
        self.need(0, "a:[2]");
        Due.due("and it conflicts with another version", self.resolve("a:1"), -5);
    }

    /** a 1 needs b 2 and c 1, and c needs b by the RANGE; b 1 and b 3 are there too. */
    private static Run withEntryAnd(String range) {
        Run run = Run.of("a:1", "b:2", "c:1", "b:1", "b:3");
        run.need(0, "b:[2]");
        run.need(0, "c:1");
        run.need(2, "b:" + range);
        return run;
    }

    private static void noPick() {
        Due.sentence("else there is no PICK: MISSING;");
        String[] ranges = {"1", "3", "[3]", "(2,)", "[,2)", "(1,2)"};
        for (String range : ranges) {
            Run run = Run.of("a:1", "b:2");
            run.need(0, "b:" + range);
            Due.due("b 2 for " + range, run.resolve("a:1"), -4);
        }
        Run run = Run.of("a:1", "b:2");
        run.need(0, "b:(,)");
        Due.due("b is there", run.resolve("a:1"), 2);
        run.x.retire(1);
        Due.due("b is retired", run.resolve("a:1"), -4);
        Run none = Run.of("a:1");
        none.need(0, "b:(,)");
        Due.due("no b at all", none.resolve("a:1"), -4);
    }

    private static void newLastEntry() {
        Due.sentence("else the PICK becomes a new last entry, with depth one more, this entry as parent,"
                + " and as barred names those of this entry and the dependency's EXCLUSIONS.");
        Run run = Run.of("a:1", "b:1", "b:2", "c:1", "d:1");
        run.need(0, "b:[1,]");
        run.need(2, "c:1");
        run.need(3, "d:1");
        Due.due("resolve", run.resolve("a:1"), 4);
        run.dueEntries("the greater b", "0 2 3 4");
        for (int k = 1; k < 4; k++) {
            Due.due("depth " + k, run.x.depth(k), k);
            Due.due("parent " + k, run.x.parent(k), k - 1);
        }
    }

    private static void barsAreHandedDown() {
        Due.sentence("else the PICK becomes a new last entry, with depth one more, this entry as parent,"
                + " and as barred names those of this entry and the dependency's EXCLUSIONS.");
        Run run = Run.of("a:1", "b:1", "c:1", "d:1", "x:1", "y:1", "z:1", "e:1");
        run.need(0, "b:1");
        run.exclude(0, "x");
        run.need(1, "c:1");
        run.exclude(1, "y");
        run.need(2, "d:1");
        run.exclude(2, "z");
        for (int artifact = 4; artifact < 8; artifact++) {
            run.need(3, run.text(artifact));
        }
        Due.due("resolve", run.resolve("a:1"), 5);
        run.dueEntries("x, y and z are barred for d", "0 1 2 3 7");
        run.resolve("b:1");
        run.dueEntries("from b on x is not", "1 2 3 4 7");
        run.resolve("c:1");
        run.dueEntries("from c on y is neither", "2 3 4 5 7");
        run.resolve("d:1");
        run.dueEntries("from d on none is", "3 4 5 6 7");
        Run sisters = Run.of("a:1", "b:1", "c:1", "x:1");
        sisters.need(0, "b:1");
        sisters.exclude(0, "x");
        sisters.need(0, "c:1");
        sisters.need(1, "x:[2]");
        sisters.need(2, "x:1");
        Due.due("what is barred for b is not for c", sisters.resolve("a:1"), 4);
        Due.due("parent of x", sisters.x.parent(3), 2);
    }

    private static void firstTroubleEndsAll() {
        Due.sentence("The first CONFLICT or MISSING ends all.");
        Run run = Run.of("a:1", "b:1");
        run.need(0, "b:1");
        run.need(0, "a:[2]");
        run.need(0, "q:1");
        run.need(1, "r:1");
        Due.due("CONFLICT, then MISSING", run.resolve("a:1"), -5);
        Due.due("culprit", run.x.culprit(), 1);
        Run other = Run.of("a:1", "b:1");
        other.need(0, "b:1");
        other.need(1, "q:1");
        other.need(0, "r:1");
        other.need(1, "a:[2]");
        Due.due("MISSING, then CONFLICT", other.resolve("a:1"), -4);
        Due.due("a's second before b's first", other.x.culprit(), 1);
    }

    private static void resolveWrongLines() {
        Due.sentence("Reads the line: NAME, a colon, RANGE. It is not so: BAD.");
        String[] bad = {
            "", ":", "a", "a:", ":1", ":(,)", "a1", "a;1", "a::1", "a:1:", "a:1:1", "a:1 ", " a:1", "A:1", "abcdefghi:1", "a:(1)", "a:[]", "a:[1",
            "a:1]", "a:,", "a:b", "a:1234567890123", "a(,)", "a".repeat(40), "a:[" + "1".repeat(37), ":".repeat(40)};
        for (String line : bad) {
            Run run = Run.of("a:1");
            Due.due("resolve " + line, run.resolve(line), -3);
            Due.due("entries", run.x.count(3), 0);
        }
        Due.due("the longest", new Run().resolve("abcdefgh:[123456789012,123456789012]"), -4);
    }

    private static void noRoot() {
        Due.sentence("There is no PICK: MISSING, the culprit is -1.");
        Due.due("resolve in a new object", new Run().resolve("a:1"), -4);
        String[] lines = {"b:1", "a:2", "a:[2,]", "a:(1,)", "a:[,1)", "aa:(,)", "z:(,)"};
        for (String line : lines) {
            Run run = Run.of("a:1", "z:1");
            run.need(1, "q:1");
            run.resolve("z:1");
            Due.due("culprit before", run.x.culprit(), 8);
            run.x.retire(1);
            Due.due("resolve " + line, run.resolve(line), -4);
            Due.due("culprit", run.x.culprit(), -1);
        }
    }

    private static void culpritOfTrouble() {
        Due.sentence("RESOLVING ends with MISSING or CONFLICT: that; the culprit is 8 * a + k,"
                + " k being the place of the dependency of artifact a that it ended at.");
        Run first = Run.of("a:1");
        first.need(0, "q:1");
        Due.due("MISSING", first.resolve("a:1"), -4);
        Due.due("the least culprit", first.x.culprit(), 0);
        Run last = new Run();
        for (int i = 0; i < 20; i++) {
            last.publish("a:" + i);
        }
        for (int k = 0; k < 5; k++) {
            last.need(19, "a:1");
        }
        last.need(19, "a:[1]");
        Due.due("CONFLICT", last.resolve("a:19"), -5);
        Due.due("the greatest culprit", last.x.culprit(), 8 * 19 + 5);
        Run deep = Run.of("c:1", "b:1", "a:1");
        deep.need(2, "b:1");
        deep.need(1, "a:1");
        deep.need(1, "c:1");
        deep.need(0, "b:1");
        deep.need(0, "b:1");
        deep.need(0, "q:1");
        Due.due("MISSING at depth 2", deep.resolve("a:1"), -4);
        Due.due("the artifact's number, not the entry's", deep.x.culprit(), 2);
        deep.publish("q:1");
        deep.need(0, "b:[3]");
        Due.due("CONFLICT at depth 2", deep.resolve("a:1"), -5);
        Due.due("the place", deep.x.culprit(), 3);
    }

    private static void resultStays() {
        Due.sentence("In these cases the RESULT stays.");
        String[] lines = {"a", "q:1", "m:1", "k:1"};
        int[] want = {-3, -4, -4, -5};
        for (int i = 0; i < lines.length; i++) {
            Run run = Run.of("a:1", "b:1", "m:1", "k:1");
            run.need(0, "b:1");
            run.x.pack(1, 3, true);
            run.need(2, "b:1");
            run.need(2, "a:1");
            run.need(2, "q:1");
            run.need(3, "b:1");
            run.need(3, "k:[2]");
            Due.due("resolve", run.resolve("a:1"), 2);
            Due.due("resolve " + lines[i], run.resolve(lines[i]), want[i]);
            Due.due("entries", run.x.count(3), 2);
            run.dueEntries("after " + lines[i], "0 1");
            Due.due("depth", run.x.depth(1), 1);
            Due.due("parent", run.x.parent(1), 0);
            Due.due("find", run.x.find(0, 3), 1);
            Due.due("the same trouble twice", run.resolve(lines[i]), want[i]);
            run.dueEntries("after it", "0 1");
        }
    }

    private static void resultIsReplaced() {
        Due.sentence("Else the list of RESOLVING becomes the RESULT, the culprit becomes -1;");
        Run run = Run.of("a:1", "b:1", "c:1", "m:1");
        run.need(0, "b:1");
        run.need(1, "c:1");
        run.need(3, "q:1");
        Due.due("three", run.resolve("a:1"), 3);
        run.resolve("m:1");
        Due.due("culprit of MISSING", run.x.culprit(), 8 * 3);
        Due.due("one", run.resolve("c:1"), 1);
        Due.due("culprit", run.x.culprit(), -1);
        run.dueEntries("the smaller one", "2");
        Due.due("no second entry", run.x.entry(1), -1);
        Due.due("greatest depth", run.x.count(4), 0);
        Due.due("two", run.resolve("b:1"), 2);
        run.dueEntries("the greater one", "1 2");
        Due.due("depth", run.x.depth(1), 1);
        run.need(1, "a:1");
        run.dueEntries("a later dependency", "1 2");
        Due.due("resolve again", run.resolve("b:1"), 3);
        run.dueEntries("all", "1 2 0");
    }

    private static void answers() {
        Due.sentence("answers how many entries it has.");
        Run run = new Run();
        for (int i = 0; i < 20; i++) {
            run.publish((char) ('a' + i) + ":1");
        }
        for (int i = 0; i < 19; i++) {
            run.need(i, (char) ('b' + i) + ":1");
        }
        int[] first = {19, 18, 10, 1, 0};
        for (int i : first) {
            Due.due("resolve from " + i, run.resolve((char) ('a' + i) + ":1"), 20 - i);
            Due.due("entries from " + i, run.x.count(3), 20 - i);
        }
    }

    private static void culpritAtFirst() {
        Due.sentence("The culprit as the last resolve that was not BAD set it; -1 at first.");
        Run run = new Run();
        Due.due("culprit at first", run.x.culprit(), -1);
        run.resolve("a");
        Due.due("culprit after BAD", run.x.culprit(), -1);
    }

    private static void culpritAfterBad() {
        Due.sentence("The culprit as the last resolve that was not BAD set it; -1 at first.");
        Run run = Run.of("a:1", "b:1");
        run.need(1, "a:1");
        run.need(1, "q:1");
        run.resolve("b:1");
        Due.due("culprit", run.x.culprit(), 9);
        Due.due("BAD", run.resolve("a:"), -3);
        Due.due("culprit after BAD", run.x.culprit(), 9);
        Due.due("BAD by an empty line", run.x.resolve(), -3);
        Due.due("culprit after BAD", run.x.culprit(), 9);
        run.x.retire(1);
        run.publish("q:1");
        run.compare("1:1");
        run.x.wipe();
        Due.due("culprit after other calls", run.x.culprit(), 9);
        Due.due("culprit again", run.x.culprit(), 9);
        run.resolve("q:1");
        Due.due("culprit after a success", run.x.culprit(), -1);
    }
}
