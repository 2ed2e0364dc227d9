import java.io.IOException;
import java.nio.charset.StandardCharsets;
import java.nio.file.Files;
import java.nio.file.Path;
import java.util.ArrayList;
import java.util.List;

/** The script that runs the tests, in small projects made for it: it passes if all tests do, and only then. */
public final class ScriptTest {
    private static final String CLASS = "main/src/main/java/HousingSociety.java";
    private static final String PROJECTS = "main/src/test/java/OneTest.java", SHARED = "shared/tests/SomeRuns.java";
    private static final String DEEPER = "shared/tests/more/OtherRuns.java";

    /** One case falls through to the next. */
    private static final String CARELESS = "public final class HousingSociety {\n"
        + "    int count(int n) { switch (n) { case 0: n++; default: return n; } }\n}\n";

    private final Checks checks = new Checks();
    private final List<Case> cases = new ArrayList<>();

    /** A small project; which of its files is laid otherwise, and what the script has to say to it. */
    private record Case(String name, String path, String source, String lastLine, int exitCode) { }

    private record Outcome(String lastLine, int exitCode) { }

    public static void main(String[] args) {
        new ScriptTest().run();
    }

    private void run() {
        expect("all is well", DEEPER, test("OtherRuns", 0), "4 passed, 0 failed", 0);
        expect("a test of the project fails", PROJECTS, test("OneTest", 1), "2 passed, 1 failed", 1);
        expect("a test of the project ends otherwise", PROJECTS, test("OneTest", 7), "2 passed, 1 failed", 1);
        expect("a test of the project does not compile", PROJECTS, "class OneTest {", "2 passed, 1 failed", 1);
        expect("no test of the project", PROJECTS, null, "2 passed, 1 failed", 1);
        expect("a shared test fails", SHARED, test("SomeRuns", 1), "2 passed, 1 failed", 1);
        expect("a shared test does not compile", SHARED, "class SomeRuns {", "2 passed, 1 failed", 1);
        expect("no shared test", SHARED, null, "2 passed, 1 failed", 1);
        expect("a shared test in a directory below fails", DEEPER, test("OtherRuns", 1), "3 passed, 1 failed", 1);
        expect("the class does not compile", CLASS, "public final class HousingSociety {", "0 passed, 3 failed", 1);
        expect("the class has a warning", CLASS, CARELESS, "2 passed, 1 failed", 1);
        cases.parallelStream().forEach(this::check);
        checks.finish("ScriptTest");
    }

    private static String test(String name, int exitCode) {
        return "public class " + name + " { public static void main(String[] a) {"
            + " new HousingSociety(); System.exit(" + exitCode + "); } }\n";
    }

    private void expect(String name, String path, String source, String lastLine, int exitCode) {
        cases.add(new Case(name, path, source, lastLine, exitCode));
    }

    private void check(Case c) {
        try {
            Path root = Files.createTempDirectory("script");
            try {
                layProject(root, c);
                Outcome outcome = runScript(root);
                synchronized (checks) {
                    checks.same(c.name, outcome.lastLine, c.lastLine);
                    checks.due(c.name + ": exit code", outcome.exitCode, c.exitCode);
                }
            } finally {
                Checks.remove(root);
            }
        } catch (IOException | InterruptedException e) {
            throw new IllegalStateException(e);
        }
    }

    private static void layProject(Path root, Case c) throws IOException {
        lay(root, CLASS, "public final class HousingSociety { }\n");
        lay(root, PROJECTS, test("OneTest", 0));
        lay(root, SHARED, test("SomeRuns", 0));
        if (c.source == null) {
            Files.delete(root.resolve(c.path));
        } else {
            lay(root, c.path, c.source);
        }
        Path script = root.resolve("main/.ci/run");
        Files.createDirectories(script.getParent());
        Files.copy(Path.of(".ci/run"), script);
    }

    private static void lay(Path root, String path, String source) throws IOException {
        Path file = root.resolve(path);
        Files.createDirectories(file.getParent());
        Files.writeString(file, source);
    }

    /** From another directory than the project's: the script must find its own way. */
    private static Outcome runScript(Path root) throws IOException, InterruptedException {
        ProcessBuilder builder = new ProcessBuilder("bash", root.resolve("main/.ci/run").toString());
        Process process = builder.directory(root.toFile()).redirectErrorStream(true).start();
        process.getOutputStream().close();
        String[] lines = new String(process.getInputStream().readAllBytes(), StandardCharsets.UTF_8).strip().split("\n");
        return new Outcome(lines[lines.length - 1], process.waitFor());
    }
}
