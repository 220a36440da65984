import java.io.IOException;
import java.lang.reflect.Method;
import java.lang.reflect.Modifier;
import java.lang.reflect.Parameter;
import java.net.URL;
import java.net.URLClassLoader;
import java.nio.charset.StandardCharsets;
import java.nio.file.Files;
import java.nio.file.Path;
import java.util.ArrayList;
import java.util.List;
import java.util.regex.Matcher;
import java.util.regex.Pattern;
import java.util.stream.Collectors;
import javax.tools.JavaCompiler;
import javax.tools.ToolProvider;

/** README.md names each call of the face, and its example answers what stands beside it. */
public final class ReadmeTest {
    private static final Path README = Path.of("README.md");
    private static final Pattern ASKED = Pattern.compile("(x\\.(\\w+)\\(.*\\));\\s+// (true|false|-?\\d+)(: .*)?");
    private static final Pattern THROWN = Pattern.compile("(x\\.\\w+\\(.*\\));\\s+// throws (\\w+)");

    private final Check check = new Check();
    private final String readme;

    private ReadmeTest(String readme) {
        this.readme = readme;
    }

    public static void main(String[] args) throws Exception {
        ReadmeTest test = new ReadmeTest(Files.readString(README, StandardCharsets.UTF_8));
        test.check.part("README.md");
        test.namesEachCall();
        test.namesEachTest();
        test.runExample(test.example());
        test.check.finish("ReadmeTest");
    }

    private void namesEachCall() {
        List<String> headings = List.of("## How to use it", "### What a caller makes", "### What a caller calls",
            "### What a caller reads", "## How to run its tests");
        for (String heading : headings) {
            check.holds("there is " + heading, readme.contains("\n" + heading + "\n"));
        }
        for (Method method : EvenTrees.class.getDeclaredMethods()) {
            if (Modifier.isPublic(method.getModifiers())) {
                List<String> names = new ArrayList<>();
                for (Parameter parameter : method.getParameters()) {
                    names.add(parameter.getName());
                }
                String call = "| `" + method.getName() + "(" + String.join(", ", names) + ")` |";
                check.holds(call + " stands in a table", readme.contains(call));
            }
        }
    }

    private void namesEachTest() throws IOException {
        try (var files = Files.list(Path.of("src/test/java"))) {
            for (Path file : files.filter(path -> path.toString().endsWith("Test.java")).toList()) {
                String name = file.getFileName().toString().replace(".java", "");
                check.holds("- `" + name + "` is told of", readme.contains("\n- `" + name + "`: "));
            }
        }
    }

    /** The lines of the example, each as a statement that compares its answer. */
    private String example() {
        Matcher block = Pattern.compile("(?s)```java\n(.*?)```").matcher(readme);
        check.holds("there is an example", block.find());
        int compared = 0;
        StringBuilder result = new StringBuilder();
        for (String line : block.group(1).split("\n")) {
            Matcher asked = ASKED.matcher(line);
            Matcher thrown = THROWN.matcher(line);
            if (asked.matches()) {
                String due = asked.group(3).matches("true|false") ? asked.group(3) : asked.group(3) + "L";
                result.append("tell.accept(" + quoted(line) + ", " + asked.group(1) + " == " + due + ");\n");
                compared++;
            } else if (thrown.matches()) {
                result.append("try { " + thrown.group(1) + "; tell.accept(" + quoted(line) + ", false); } catch (java.util."
                    + thrown.group(2) + " e) { }\n");
                compared++;
            } else {
                check.holds("only what makes the object stands without an answer: " + line, line.contains("= new EvenTrees();"));
                result.append(line + "\n");
            }
        }
        check.holds("the example has answers", compared > 9);
        return result.toString();
    }

    private static String quoted(String line) {
        return "\"" + line.chars().mapToObj(sign -> sign == '"' || sign == '\\' ? "\\" + (char) sign : "" + (char) sign)
            .collect(Collectors.joining()) + "\"";
    }

    private void runExample(String lines) throws Exception {
        Path directory = Files.createTempDirectory("readme");
        Path source = directory.resolve("Example.java");
        Files.writeString(source, "public class Example {\n"
            + "public static void run(java.util.function.BiConsumer<String, Boolean> tell) {\n" + lines + "}\n}\n");
        JavaCompiler compiler = ToolProvider.getSystemJavaCompiler();
        int failed = compiler == null ? 1 : compiler.run(null, null, null, "-cp", System.getProperty("java.class.path"),
            "-d", directory.toString(), source.toString());
        check.due("compiling the example", failed, 0);
        if (failed == 0) {
            try (URLClassLoader loader = new URLClassLoader(new URL[] {directory.toUri().toURL()})) {
                java.util.function.BiConsumer<String, Boolean> tell = check::holds;
                loader.loadClass("Example").getMethod("run", java.util.function.BiConsumer.class).invoke(null, tell);
            }
        }
        try (var files = Files.list(directory)) {
            for (Path file : files.toList()) {
                Files.delete(file);
            }
        }
        Files.delete(directory);
    }
}
