import java.io.IOException;
import java.lang.reflect.Method;
import java.lang.reflect.Modifier;
import java.net.URL;
import java.net.URLClassLoader;
import java.nio.file.Files;
import java.nio.file.Path;
import java.util.regex.Matcher;
import java.util.regex.Pattern;
import java.util.stream.Stream;
import javax.tools.JavaCompiler;
import javax.tools.ToolProvider;

/** What README.md tells of the use of the class and of its tests is so. */
public final class ReadmeTest {
    private static final Checks checks = new Checks();
    private static final Path HERE = Path.of("README.md"), TESTS = Path.of("src/test/java"), SCRIPT = Path.of(".ci/run");
    /** A call with its answer behind it: a number or a constant, and perhaps a colon and what it means. */
    private static final Pattern CALL = Pattern.compile("(x\\.\\w+\\(.*\\)); *// (-?\\d+|[A-Z]+)(: .*)?");

    public static void main(String[] args) throws Exception {
        String readme = Files.readString(HERE);
        example(readme);
        allCallsAreNamed(readme);
        allTestsAreNamed(readme);
        checks.due("the command stands on a line of its own", readme.contains("\n\n    " + SCRIPT + "\n\n") ? 1 : 0, 1);
        checks.due("the command can be run", Files.isExecutable(SCRIPT) ? 1 : 0, 1);
        checks.finish("ReadmeTest");
    }

    /** Public, since the example, which is compiled here, calls it. */
    public static void answered(String call, long got, long want) {
        checks.due("README.md: " + call, got, want);
    }

    private static void example(String readme) throws Exception {
        Path directory = Files.createTempDirectory("readme");
        try {
            Path source = directory.resolve("Example.java");
            Files.writeString(source, program(readme));
            JavaCompiler compiler = ToolProvider.getSystemJavaCompiler();
            int outcome = compiler.run(null, null, null, "--release", "17", "-cp", System.getProperty("java.class.path"),
                "-d", directory.toString(), source.toString());
            checks.due("compiling the example", outcome, 0);
            if (outcome == 0) {
                run(directory);
            }
        } finally {
            Checks.remove(directory);
        }
    }

    private static void run(Path directory) throws Exception {
        int before = checks.done();
        try (URLClassLoader loader = new URLClassLoader(new URL[] {directory.toUri().toURL()})) {
            loader.loadClass("Example").getMethod("run").invoke(null);
        }
        checks.due("the example asks something", checks.done() > before ? 1 : 0, 1);
    }

    /** All lines of the example as one method, in which each call is compared with what stands behind it. */
    private static String program(String readme) {
        StringBuilder program = new StringBuilder("public class Example {\n  public static void run() {\n");
        Matcher blocks = Pattern.compile("(?s)```java\n(.*?)```").matcher(readme);
        while (blocks.find()) {
            for (String line : blocks.group(1).split("\n")) {
                program.append(statement(line)).append('\n');
            }
        }
        return program.append("  }\n}\n").toString();
    }

    private static String statement(String line) {
        Matcher call = CALL.matcher(line);
        if (!call.matches()) {
            checks.due("a call without an answer: " + line, line.startsWith("x.") ? 1 : 0, 0);
            return line;
        }
        String want = call.group(2).matches("[A-Z]+") ? "HousingSociety." + call.group(2) : call.group(2) + "L";
        String quoted = call.group(1).replace("\"", "\\\"");
        return "ReadmeTest.answered(\"" + quoted + "\", " + call.group(1) + ", " + want + ");";
    }

    private static void allCallsAreNamed(String readme) {
        for (Method m : HousingSociety.class.getDeclaredMethods()) {
            if (Modifier.isPublic(m.getModifiers())) {
                checks.due(m.getName() + " is named", readme.contains("`" + m.getName() + "`") ? 1 : 0, 1);
            }
        }
    }

    private static void allTestsAreNamed(String readme) throws IOException {
        try (Stream<Path> files = Files.list(TESTS)) {
            for (Path file : files.toList()) {
                String name = file.getFileName().toString().replace(".java", "");
                checks.due(name + " is named", readme.contains("`" + name + "`") ? 1 : 0, 1);
            }
        }
        Matcher named = Pattern.compile("`(\\w+Test)`").matcher(readme);
        while (named.find()) {
            checks.due(named.group(1) + " is there", Files.exists(TESTS.resolve(named.group(1) + ".java")) ? 1 : 0, 1);
        }
    }
}
