/** A new launcher, with whole lines typed at once before the call that reads them. */
final class Run {
    final LayeredLauncher x = new LayeredLauncher();

    /** A run whose repository has these artifacts, from number 0 on. */
    static Run of(String... artifacts) {
        Run run = new Run();
        for (int i = 0; i < artifacts.length; i++) {
            Due.due("publish " + artifacts[i], run.publish(artifacts[i]), i);
        }
        return run;
    }

    Run typed(String line) {
        for (int i = 0; i < line.length(); i++) {
            x.type(line.charAt(i));
        }
        return this;
    }

    int publish(String line) {
        return typed(line).x.publish();
    }

    int need(int artifact, String line) {
        return typed(line).x.depend(artifact, false);
    }

    int mayNeed(int artifact, String line) {
        return typed(line).x.depend(artifact, true);
    }

    int exclude(int artifact, String line) {
        return typed(line).x.exclude(artifact);
    }

    int compare(String line) {
        return typed(line).x.compare();
    }

    int resolve(String line) {
        return typed(line).x.resolve();
    }

    /** The artifact numbers of the RESULT's entries, as in "0 2 1". */
    String entries() {
        StringBuilder list = new StringBuilder();
        for (int k = 0; k < x.count(3); k++) {
            list.append(k == 0 ? "" : " ").append(x.entry(k));
        }
        return list.toString();
    }

    void dueEntries(String what, String want) {
        Due.due(what + ": entries", entries(), want);
    }

    /** Name, colon and version of an artifact, as text tells them. */
    String text(int artifact) {
        StringBuilder characters = new StringBuilder();
        for (int i = 0; i < x.text(artifact, -1); i++) {
            characters.append((char) x.text(artifact, i));
        }
        return characters.toString();
    }
}
