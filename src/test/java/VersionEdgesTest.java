/** The boundary cases of NAME, VERSION, PARTS, ORDER and EQUAL and of promise 9, a test for each sentence. */
public final class VersionEdgesTest {
    private static final String[] NO_NAMES = {
        "", "abcdefghi", "abcdefghijklmnop", "`", "{", "A", "Z", "0", "9", "a0", "0a", "aB", "a`", "{a", "a.b", "a-b", "a_b", " a", "a ",
        "\u00e1", "\0", "\u00ff", "abcdefg1", "abcdefgh1"};
    private static final String[] NAMES = {"a", "z", "az", "abcdefgh", "zzzzzzzz", "aaaaaaaa"};
    private static final String[] NO_VERSIONS = {
        "", "1234567890123", "1.2.3.4.5.6.7", "1abcdefghijkl", "a", "z1", ".1", "-1", ".", "-", "1.", "1-", "1.2.", "1a-", "12345678901.",
        "1..2", "1.-2", "1-.2", "1--2", "1.2--3", "1...2", "1/2", "1`", "1{", "1A", "1Z", "1_2", "1+2", "1 2", " 1", "1 ",
        "1\u00e1", "1\0", "1\u00ff", "/", "`1", "A"};
    private static final String[] VERSIONS = {
        "0", "9", "00", "123456789012", "000000000000", "999999999999", "1abcdefghijk", "1.2", "1-2", "1.2-3", "1.a", "1-z", "1a.b",
        "1.2.3.4.5.6a", "1-2-3-4-5-6z", "0a0z0a0z0a0z", "1a1"};

    public static void main(String[] args) {
        names();
        namesAreWhole();
        versions();
        longestRuns();
        decimalValues();
        partAfterPart();
        missingParts();
        numbersByValue();
        wordsBelowNumbers();
        words();
        equalVersions();
        compareWrongLines();
        compareAnswers();
        Due.end();
    }

    private static void names() {
        Due.sentence("NAME: 1 to 8 characters a .. z.");
        for (String name : NO_NAMES) {
            nameIn(name, false);
        }
        for (String name : NAMES) {
            nameIn(name, true);
        }
    }

    private static void nameIn(String name, boolean right) {
        Run run = Run.of("a:7");
        Due.due("publish the name " + name, run.publish(name + ":1"), right ? 1 : -3);
        Due.due("depend on the name " + name, run.need(0, name + ":1"), right ? 0 : -3);
        Due.due("resolve the name " + name, run.resolve(name + ":9"), right ? -4 : -3);
        run.need(0, "b:1");
        Due.due("exclude the name " + name, run.exclude(0, name), right ? 0 : -3);
    }

    private static void namesAreWhole() {
        Due.sentence("NAME: 1 to 8 characters a .. z.");
        String[] names = {"a", "aa", "z", "zz", "abcdefgh", "abcdefgi", "bbcdefgh", "abcdefg", "aaaaaaaa", "zzzzzzzz", "zzzzzzzy", "ba", "ab"};
        Run run = new Run();
        for (int i = 0; i < names.length; i++) {
            Due.due("publish " + names[i], run.publish(names[i] + ":1"), i);
        }
        for (int i = 0; i < names.length; i++) {
            run.resolve(names[i] + ":1");
            Due.due("resolve " + names[i], run.x.entry(0), i);
        }
    }

    private static void versions() {
        Due.sentence("VERSION: 1 to 12 characters 0 .. 9, a .. z, . and -, with a digit first,"
                + " and neither . nor - last or beside another . or -.");
        for (String version : NO_VERSIONS) {
            versionIn(version, false);
        }
        for (String version : VERSIONS) {
            versionIn(version, true);
        }
    }

    private static void versionIn(String version, boolean right) {
        Run run = Run.of("a:7");
        Due.due("compare first " + version, run.compare(version + ":" + version), right ? 3 : -3);
        Due.due("compare second " + version, run.compare("99:" + version) == -3 ? -3 : 0, right ? 0 : -3);
        Due.due("compare only first " + version, run.compare(version + ":99") == -3 ? -3 : 0, right ? 0 : -3);
        Due.due("publish " + version, run.publish("b:" + version), right ? 1 : -3);
        Due.due("WISH " + version, run.need(0, "b:" + version), right ? 0 : -3);
        Due.due("just " + version, run.resolve("b:[" + version + "]"), right ? 1 : -3);
        // A bound may be nothing, though nothing is no VERSION.
        if (!version.isEmpty()) {
            Due.due("from " + version, run.resolve("b:[" + version + ",]"), right ? 1 : -3);
            Due.due("up to " + version, run.resolve("b:[," + version + "]"), right ? 1 : -3);
        }
    }

    private static void longestRuns() {
        Due.sentence("The PARTS of a version are the longest runs of digits (a number part, its value read in decimal)"
                + " and of letters (a word part).");
        compared("1a", "1.a", 3);
        compared("1a2b", "1-a.2-b", 3);
        compared("1a1a1a1a1a1a", "1.a1a1a1a1a", 4);
        compared("12", "1.2", 4);
        compared("1.12", "1.1.2", 4);
        compared("1ab", "1a.b", 4);
        compared("1a-b", "1ab", 2);
        compared("1.2", "1-2", 3);
    }

    private static void decimalValues() {
        Due.sentence("(a number part, its value read in decimal)");
        compared("010", "10", 3);
        compared("010", "8", 4);
        compared("000000000000", "0", 3);
        compared("000000000001", "1", 3);
        compared("1.010", "1.9", 4);
        compared("2147483648", "1", 4);
        compared("2147483648", "2147483647", 4);
        compared("4294967297", "1", 4);
        compared("4294967296", "0", 4);
        compared("999999999999", "999999999998", 4);
        compared("281474976710", "281474976711", 2);
    }

    private static void partAfterPart() {
        Due.sentence("ORDER of two versions: the first parts are compared, then the second ones, and so on,"
                + " until two differ or both have no more;");
        compared("1.9", "2.0", 2);
        compared("1.2.9", "1.3", 2);
        compared("1.9.0", "1.8.9", 4);
        compared("0a0a0a0a0a0a", "0a0a0a0a0a0b", 2);
        compared("0a0a0a0a0a1a", "0a0a0a0a0a0b", 4);
        compared("1.2.3.4.5.6", "1.2.3.4.5.7", 2);
        compared("1.2.3.4.5.6", "1.2.3.4.5.6", 3);
    }

    private static void missingParts() {
        Due.sentence("a part that is missing counts as the number 0.");
        compared("1", "1.0", 3);
        compared("1", "1-0.0.00-000", 3);
        compared("0", "0.0.0.0.0.0", 3);
        compared("1a", "1a0", 3);
        compared("1", "1.1", 2);
        compared("1", "1.0.0.0.0.1", 2);
        compared("1a", "1", 2);
        compared("1.0a", "1", 2);
        compared("1.0.0.0.0a", "1", 2);
        compared("0a0a0a0a0a0a", "0a0a0a0a0a", 2);
    }

    private static void numbersByValue() {
        Due.sentence("Two numbers are compared by value;");
        compared("9", "10", 2);
        compared("99", "100", 2);
        compared("1.9", "1.10", 2);
        compared("007", "8", 2);
        compared("0", "1", 2);
        compared("99999999999", "100000000000", 2);
    }

    private static void wordsBelowNumbers() {
        Due.sentence("a word is less than a number;");
        compared("1z", "1.0", 2);
        compared("1a", "1.0", 2);
        compared("1zzzzzzzzzzz", "1.0", 2);
        compared("1zzzzzzzzzzz", "1.000000000", 2);
        compared("1a", "1.9999999999", 2);
        compared("1a.z9", "1a.0", 2);
    }

    private static void words() {
        Due.sentence("two words are compared by their characters in turn, and if one is the beginning of the other the shorter is less.");
        compared("1a", "1b", 2);
        compared("1y", "1z", 2);
        compared("1az", "1b", 2);
        compared("1ab", "1aca", 2);
        compared("1azzzzzzzzzz", "1b", 2);
        compared("1a", "1aa", 2);
        compared("1zzzzzzzzzz", "1zzzzzzzzzza", 2);
        compared("1aaaaaaaaaaa", "1aaaaaaaaaab", 2);
        compared("1bcdefghijka", "1bcdefghijka", 3);
        compared("1a9", "1aa", 2);
    }

    private static void equalVersions() {
        Due.sentence("Versions are EQUAL if no two parts differ.");
        compared("1.0", "01-00", 3);
        compared("1a.0", "01-a", 3);
        compared("1.a", "1.b", 2);
        compared("1", "1", 3);
        compared("1.0.0.1", "1.0.1", 2);
    }

    /** The answer for the two versions, and the opposite one for the two exchanged. */
    private static void compared(String first, String second, int want) {
        Due.due("compare " + first + ":" + second, new Run().compare(first + ":" + second), want);
        Due.due("compare " + second + ":" + first, new Run().compare(second + ":" + first), 6 - want);
    }

    private static void compareWrongLines() {
        Due.sentence("Reads the line: VERSION, a colon, VERSION. It is not so: BAD.");
        String[] bad = {
            "", ":", "1", "1:", ":1", "11", "1;1", "1 1", "1::1", ":1:1", "1:1:", "1:1:1", "1:1 ", " 1:1", "1: 1", "a:1", "1:a", "1,1", "1:[1]",
            "[1]:1", "1:1]", "123456789012:1234567890123", "1".repeat(40), "1:" + "1".repeat(38), ":".repeat(40)};
        for (String line : bad) {
            Due.due("compare " + line, new Run().compare(line), -3);
        }
        Due.due("compare the longest", new Run().compare("123456789012:123456789012"), 3);
    }

    private static void compareAnswers() {
        Due.sentence("Else 2 if the first is below the second, 3 if they are EQUAL, 4 if it is above.");
        Due.due("below", new Run().compare("1:2"), 2);
        Due.due("far below", new Run().compare("0:999999999999"), 2);
        Due.due("EQUAL", new Run().compare("1:1.0"), 3);
        Due.due("above", new Run().compare("2:1"), 4);
        Due.due("far above", new Run().compare("999999999999:0a"), 4);
    }
}
