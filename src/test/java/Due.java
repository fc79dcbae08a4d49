import java.util.HashSet;
import java.util.Set;

/** Counts and prints the answers that are not as due; end() gives the exit code for them. */
final class Due {
    private static int wrong = 0;
    private static int asked = 0;
    private static final Set<String> SENTENCES = new HashSet<>();
    /** The document's sentence that is tested now, so that a wrong answer tells which one is broken. */
    private static String sentence = "";

    private Due() {
    }

    static void sentence(String words) {
        sentence = words;
        SENTENCES.add(words);
    }

    static void due(String call, long got, long want) {
        asked++;
        if (got != want) {
            wrong++;
            tell(call + " answered " + got + ", due is " + want);
        }
    }

    static void due(String what, String got, String want) {
        asked++;
        if (!got.equals(want)) {
            wrong++;
            tell(what + " is <" + got + ">, due is <" + want + ">");
        }
    }

    private static void tell(String fault) {
        System.out.println(sentence.isEmpty() ? fault : fault + " | \"" + sentence + "\"");
    }

    static void end() {
        String tested = SENTENCES.isEmpty() ? "" : ", sentences of the document: " + SENTENCES.size();
        System.out.println(wrong == 0 ? asked + " answers are as due" + tested : wrong + " answers are not as due");
        if (wrong != 0) {
            System.exit(1);
        }
    }
}
