import java.io.File;
import java.lang.reflect.Method;
import java.lang.reflect.Modifier;
import java.net.URL;
import java.net.URLClassLoader;
import java.nio.file.Files;
import java.nio.file.Path;
import java.util.regex.Matcher;
import java.util.regex.Pattern;
import javax.tools.ToolProvider;

/** README.md: its example answers what its comments say, and it names every call and every test. */
public final class ReadmeTest {
    private static final Pattern EXAMPLE = Pattern.compile("```java\n(.*?)```", Pattern.DOTALL);
    /** A call whose answer stands behind it, as in "int a = x.publish(); // 0: its number". */
    private static final Pattern ANSWERED = Pattern.compile("(int \\w+ = )?(x\\.\\w+\\(.*\\)); *// (-?\\d+)(?::.*)?");

    public static void main(String[] args) throws Exception {
        String readme = Files.readString(Path.of("README.md"));
        callsAreNamed(readme);
        testsAreNamed(readme);
        exampleAnswers(readme);
        Due.end();
    }

    private static void callsAreNamed(String readme) {
        for (Method method : LayeredLauncher.class.getDeclaredMethods()) {
            if (Modifier.isPublic(method.getModifiers())) {
                Due.due("README.md tells of " + method.getName(), readme.contains("`" + method.getName() + "(") ? 1 : 0, 1);
            }
        }
    }

    private static void testsAreNamed(String readme) {
        for (String file : new File("src/test/java").list()) {
            String name = file.replace(".java", "");
            boolean named = readme.contains("| " + name + " |") || readme.contains("`" + name + "`");
            Due.due("README.md tells of " + name, named ? 1 : 0, 1);
        }
    }

    private static void exampleAnswers(String readme) throws Exception {
        Matcher block = EXAMPLE.matcher(readme);
        Due.due("README.md has an example", block.find() ? 1 : 0, 1);
        StringBuilder source = new StringBuilder("public final class ReadmeExample {\n"
                + "public static String answers() {\nStringBuilder got = new StringBuilder();\n");
        StringBuilder want = new StringBuilder();
        for (String line : block.group(1).split("\n")) {
            Matcher call = ANSWERED.matcher(line);
            if (call.matches()) {
                source.append(kept(call)).append('\n');
                want.append(call.group(3)).append(' ');
            } else {
                Due.due("README.md: no answer can be read from " + line, line.contains("//") ? 1 : 0, 0);
                source.append(line).append('\n');
            }
        }
        source.append("return got.toString();\n}\n}\n");
        Due.due("the answers of README.md's example", answersOf(source.toString()), want.toString());
    }

    /** The call as it stands in the example, its answer being kept. */
    private static String kept(Matcher call) {
        String variable = call.group(1) == null ? "" : call.group(1);
        String value = variable.isEmpty() ? call.group(2) : variable.replace("int ", "").replace(" = ", "");
        return (variable.isEmpty() ? "" : variable + call.group(2) + "; ") + "got.append(" + value + ").append(' ');";
    }

    private static String answersOf(String source) throws Exception {
        Path folder = Files.createTempDirectory("readme");
        Path file = folder.resolve("ReadmeExample.java");
        Files.writeString(file, source);
        String classes = System.getProperty("java.class.path");
        int compiled = ToolProvider.getSystemJavaCompiler().run(
                null, null, null, "-cp", classes, "-d", folder.toString(), file.toString());
        String answers = compiled == 0 ? answersFrom(folder) : "nothing, as it does not compile";
        for (File made : folder.toFile().listFiles()) {
            made.delete();
        }
        Files.delete(folder);
        return answers;
    }

    private static String answersFrom(Path folder) throws Exception {
        try (URLClassLoader loader = new URLClassLoader(new URL[] {folder.toUri().toURL()})) {
            return (String) loader.loadClass("ReadmeExample").getMethod("answers").invoke(null);
        }
    }
}
