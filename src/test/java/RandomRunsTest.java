import java.util.Random;

/** Many runs of calls, the same ones each time, whose answers are those of the plain model. */
public final class RandomRunsTest {
    private static final int RUNS = 6000;
    private static final int CALLS = 512;
    private static final String[] VERSIONS = {
        "1", "1.0", "2", "2-0", "1a", "1b", "1.1", "10", "3", "2.x", "1ab", "0", "1rc1", "2.0.1", "999999999999", "0123456789ab"};

    private final Random random;
    private final int names;
    /** In a calm run most lines are right and most ranges wide, so that RESULTS grow large. */
    private final boolean calm;
    private final LayeredLauncher x = new LayeredLauncher();
    private final PlainModel model = new PlainModel();
    private int calls = 0;
    private final int run;

    /** A call counts what it answers; these are how often each kind of answer of resolve was seen. */
    private static final int[] RESOLVED = new int[27];

    private RandomRunsTest(int run) {
        this.run = run;
        random = new Random(run);
        names = 2 + random.nextInt(8);
        calm = random.nextBoolean();
    }

    public static void main(String[] args) {
        for (int run = 0; run < RUNS; run++) {
            new RandomRunsTest(run).drive();
        }
        StringBuilder seen = new StringBuilder("resolve answered");
        for (int i = 0; i < RESOLVED.length; i++) {
            seen.append(RESOLVED[i] == 0 ? "" : " " + (i - 5) + ":" + RESOLVED[i]);
        }
        System.out.println(seen);
        Due.end();
    }

    private void drive() {
        int publishing = calm ? 12 * names : 40 + random.nextInt(200);
        while (calls < CALLS) {
            if (calls < publishing) {
                publishOne();
            } else {
                anyStep();
            }
        }
    }

    private void anyStep() {
        if (calm && random.nextInt(3) == 0) {
            dependOne();
            return;
        }
        switch (random.nextInt(16)) {
            case 0 -> publishOne();
            case 1, 2, 3 -> dependOne();
            case 4 -> excludeOne();
            case 5, 6 -> packOne();
            case 7 -> retireOne();
            case 8 -> compareOne();
            case 9, 10, 11, 12 -> resolveOne();
            case 13 -> oddTyping();
            default -> lookOnce();
        }
    }

    private void publishOne() {
        if (typed(name() + ":" + version())) {
            due("publish", x.publish(), model.publish());
        }
    }

    private void dependOne() {
        int artifact = artifact();
        boolean optional = random.nextInt(4) == 0;
        if (typed(name() + ":" + range())) {
            due("depend " + artifact + " " + optional, x.depend(artifact, optional), model.depend(artifact, optional));
        }
    }

    private void excludeOne() {
        int artifact = artifact();
        if (typed(name())) {
            due("exclude " + artifact, x.exclude(artifact), model.exclude(artifact));
        }
    }

    private void packOne() {
        int artifact = artifact();
        int cls = random.nextInt(8) == 0 ? random.nextInt(36) - 2 : random.nextInt(3);
        boolean on = random.nextInt(4) != 0;
        due("pack " + artifact + " " + cls + " " + on, x.pack(artifact, cls, on), model.pack(artifact, cls, on));
    }

    private void retireOne() {
        if (random.nextInt(calm ? 9 : 3) == 0) {
            int artifact = artifact();
            due("retire " + artifact, x.retire(artifact), model.retire(artifact));
        }
    }

    private void compareOne() {
        if (typed(version() + ":" + version())) {
            due("compare", x.compare(), model.compare());
        }
    }

    private void resolveOne() {
        if (typed(name() + ":" + range())) {
            int got = x.resolve();
            due("resolve", got, model.resolve());
            RESOLVED[Math.floorMod(got + 5, RESOLVED.length)]++;
            for (int i = 0; i < 6; i++) {
                lookOnce();
            }
        }
    }

    private void oddTyping() {
        if (random.nextInt(8) == 0) {
            for (int i = 0; i < 43; i++) {
                typed("7");
            }
        }
        int c = random.nextInt(300) - 20;
        due("type " + c, x.type(c), model.type(c));
        if (random.nextBoolean()) {
            due("wipe", x.wipe(), model.wipe());
        }
    }

    private void lookOnce() {
        int k = random.nextInt(9) - 1;
        int artifact = artifact();
        switch (random.nextInt(8)) {
            case 0 -> due("culprit", x.culprit(), model.culprit());
            case 1 -> due("entry " + k, x.entry(k), model.entry(k));
            case 2 -> due("depth " + k, x.depth(k), model.depth(k));
            case 3 -> due("parent " + k, x.parent(k), model.parent(k));
            case 4 -> {
                int d = random.nextInt(5) - 1;
                int cls = random.nextInt(4) - 1;
                due("find " + d + " " + cls, x.find(d, cls), model.find(d, cls));
            }
            case 5 -> {
                int i = random.nextInt(8) - 2;
                due("text " + artifact + " " + i, x.text(artifact, i), model.text(artifact, i));
            }
            default -> due("count " + k, x.count(k), model.count(k));
        }
    }

    private int artifact() {
        int there = model.count(0);
        return random.nextInt(12) == 0 || there == 0 ? random.nextInt(24) - 2 : random.nextInt(there);
    }

    private String name() {
        String letter = String.valueOf((char) ('a' + random.nextInt(names)));
        return random.nextInt(30) == 0 ? letter + "bcdefghi".substring(random.nextInt(8)) : letter;
    }

    private String version() {
        if (calm && random.nextInt(8) != 0) {
            return VERSIONS[random.nextInt(2)];
        }
        if (random.nextInt(12) != 0) {
            return VERSIONS[random.nextInt(random.nextBoolean() ? 3 : VERSIONS.length)];
        }
        StringBuilder text = new StringBuilder(random.nextInt(4) == 0 ? "" : "1");
        for (int length = random.nextInt(13); length > 0; length--) {
            text.append("01ab.-".charAt(random.nextInt(6)));
        }
        return text.toString();
    }

    private String range() {
        if (calm && random.nextInt(3) != 0) {
            return random.nextBoolean() ? "(,)" : "1";
        }
        String low = random.nextInt(4) == 0 ? "" : version();
        String high = random.nextInt(3) == 0 ? "" : version();
        return switch (random.nextInt(6)) {
            case 0, 1 -> version();
            case 2 -> "[" + version() + (random.nextInt(8) == 0 ? ")" : "]");
            case 3 -> "(" + low + "," + high + ")";
            case 4 -> "[" + low + "," + high + "]";
            default -> random.nextBoolean() ? "[" + low + "," + high + ")" : "(" + low + (random.nextInt(9) == 0 ? "" : ",") + high + "]";
        };
    }

    /** Types a line, now and then with a wrong character in it; false if the run's calls are used up. */
    private boolean typed(String line) {
        String text = line;
        if (random.nextInt(calm ? 200 : 40) == 0 && !line.isEmpty()) {
            int i = random.nextInt(line.length());
            text = line.substring(0, i) + "A:,[(])z 0.-\u00ff".charAt(random.nextInt(13)) + line.substring(i + random.nextInt(2));
        }
        for (int i = 0; i < text.length() && calls < CALLS; i++) {
            char c = text.charAt(i);
            due("type " + c, x.type(c), model.type(c));
        }
        return calls < CALLS;
    }

    private void due(String call, int got, int want) {
        calls++;
        if (calls <= CALLS) {
            Due.due("run " + run + ", call " + calls + ": " + call, got, want);
        }
    }
}
