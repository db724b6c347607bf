import java.io.File;
import java.io.IOException;
import java.lang.reflect.Method;
import java.lang.reflect.Modifier;
import java.net.URL;
import java.net.URLClassLoader;
import java.nio.file.Files;
import java.nio.file.Path;
import java.util.regex.Matcher;
import java.util.regex.Pattern;
import javax.tools.ToolProvider;

/** README.md tells the truth: its example answers what stands behind it, and no call and no test is left out. */
public final class ReadmeTest {
    private static final Pattern EXAMPLE = Pattern.compile("```java\\n(.*?)```", Pattern.DOTALL);
    private static final Pattern ANSWER = Pattern.compile("int (\\w+) = [^;]*; +// (-?\\d+|RelayPassages\\.\\w+)\\b");

    public static void main(String[] args) throws Exception {
        String readme = Files.readString(Path.of("README.md"));
        Matcher example = EXAMPLE.matcher(readme);
        Check.due("there is an example", true, example.find());
        checkAnswers(example.group(1));
        checkCalls(readme);
        checkTests(readme);
        Check.end();
    }

    private static void checkAnswers(String example) throws Exception {
        StringBuilder pairs = new StringBuilder();
        Matcher answer = ANSWER.matcher(example);
        while (answer.find()) {
            pairs.append("{").append(answer.group(2)).append(", ").append(answer.group(1)).append("}, ");
        }
        int[][] answers = run(example + " return new int[][] {" + pairs + "};");
        Check.due("answers told in the example", example.lines().filter(line -> line.startsWith("int ")).count(),
            answers.length);
        for (int i = 0; i < answers.length; i++) {
            Check.due("answer " + i + " of the example", answers[i][0], answers[i][1]);
        }
    }

    private static int[][] run(String body) throws Exception {
        Path room = Files.createTempDirectory("readme");
        Path source = room.resolve("Example.java");
        Files.writeString(source, "public class Example { public static int[][] run() {\n" + body + "\n} }");
        int exit = ToolProvider.getSystemJavaCompiler().run(null, null, null, "-proc:none", "-d", room.toString(),
            "-cp", System.getProperty("java.class.path"), source.toString());
        Check.due("the example compiles", 0, exit);
        try (URLClassLoader loader = new URLClassLoader(new URL[] {room.toUri().toURL()})) {
            return exit == 0 ? (int[][]) loader.loadClass("Example").getMethod("run").invoke(null) : new int[0][];
        } finally {
            remove(room);
        }
    }

    private static void remove(Path room) throws IOException {
        for (File file : room.toFile().listFiles()) {
            Files.delete(file.toPath());
        }
        Files.delete(room);
    }

    private static void checkCalls(String readme) {
        for (Method method : RelayPassages.class.getDeclaredMethods()) {
            if (Modifier.isPublic(method.getModifiers())) {
                Check.due("README.md tells of " + method.getName(), true,
                    readme.contains("| `" + method.getName() + "("));
            }
        }
    }

    private static void checkTests(String readme) {
        for (File file : Path.of("src/test/java").toFile().listFiles()) {
            String name = file.getName().replace(".java", "");
            Check.due("README.md tells of " + name, true, readme.contains("`" + name + "`"));
        }
    }
}
