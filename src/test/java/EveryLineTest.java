import java.util.ArrayList;
import java.util.List;

/**
 * Every line of some length over the characters that mean something, and lines that are right but for one
 * character, whatever it is, read by each call that reads one; and every two short versions compared.
 */
public final class EveryLineTest {
    private static final String MEANING_SOMETHING = "a1.-:[(,])";
    private static final String[] RIGHT = {
        "abcdefgh:1.2-3a", "a:[1.2,3)", "a:(,3]", "b:[1]", "1.2:3a-4", "abcdefgh", "a:(123456789012,123456789012]"};

    public static void main(String[] args) {
        everyLine("", MEANING_SOMETHING, 5);
        everyLine("a:", MEANING_SOMETHING, 5);
        everyLine("a:[12345678901", "1.,])", 4);
        everyLine("a:(,12345678901", "1-,])", 4);
        everyLine("1:12345678901", "1a.-", 4);
        everyLine("12345678901", "1a.-:", 4);
        everyLine("aaaaaaa", "bz:1", 4);
        for (String line : RIGHT) {
            oneCharacterOff(line);
        }
        everyTwoVersions();
        Due.end();
    }

    private static void everyLine(String beginning, String characters, int more) {
        readByEachCall(beginning);
        for (int i = 0; i < characters.length() && more > 0; i++) {
            everyLine(beginning + characters.charAt(i), characters, more - 1);
        }
    }

    private static void oneCharacterOff(String line) {
        for (int at = 0; at <= line.length(); at++) {
            for (char c = 0; c <= 255; c++) {
                readByEachCall(line.substring(0, at) + c + line.substring(at));
                if (at < line.length()) {
                    readByEachCall(line.substring(0, at) + c + line.substring(at + 1));
                }
            }
        }
    }

    private static void readByEachCall(String line) {
        LayeredLauncher x = new LayeredLauncher();
        PlainModel model = new PlainModel();
        type("a:1", x, model);
        Due.due("publish a:1", x.publish(), model.publish());
        type(line, x, model);
        Due.due("publish " + line, x.publish(), model.publish());
        type(line, x, model);
        Due.due("depend " + line, x.depend(0, false), model.depend(0, false));
        type(line, x, model);
        Due.due("resolve " + line, x.resolve(), model.resolve());
        type(line, x, model);
        Due.due("compare " + line, x.compare(), model.compare());
        type("b:1", x, model);
        Due.due("depend b:1", x.depend(0, true), model.depend(0, true));
        type(line, x, model);
        Due.due("exclude " + line, x.exclude(0), model.exclude(0));
    }

    private static void everyTwoVersions() {
        List<String> versions = new ArrayList<>();
        everyVersion("", versions);
        Due.due("versions", versions.size(), 798);
        for (String first : versions) {
            for (String second : versions) {
                LayeredLauncher x = new LayeredLauncher();
                PlainModel model = new PlainModel();
                type(first + ":" + second, x, model);
                Due.due("compare " + first + ":" + second, x.compare(), model.compare());
            }
        }
    }

    /** Those of at most 4 characters, the compared ones being told apart by 0, 1, 2, a and b. */
    private static void everyVersion(String beginning, List<String> versions) {
        if (beginning.matches("[0-9][0-9a-z]*([.-][0-9a-z]+)*")) {
            versions.add(beginning);
        }
        for (int i = 0; i < "012ab.-".length() && beginning.length() < 4; i++) {
            everyVersion(beginning + "012ab.-".charAt(i), versions);
        }
    }

    private static void type(String line, LayeredLauncher x, PlainModel model) {
        for (int i = 0; i < line.length(); i++) {
            x.type(line.charAt(i));
            model.type(line.charAt(i));
        }
    }
}
