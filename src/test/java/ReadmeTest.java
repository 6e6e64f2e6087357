import java.io.IOException;
import java.net.URL;
import java.net.URLClassLoader;
import java.nio.file.Files;
import java.nio.file.Path;
import java.util.ArrayList;
import java.util.List;
import java.util.TreeSet;
import java.util.regex.Matcher;
import java.util.regex.Pattern;
import java.util.stream.Stream;
import javax.tools.ToolProvider;

/** What README.md says is so: its examples answer what stands behind them, and its tables name each test. */
final class ReadmeTest {
    private static final Pattern CALL = Pattern.compile("((?:new RetentionArchive\\(\\)|archive)\\.\\w+\\(.*\\));\\s+// (.+)");
    private static final Pattern NAMED = Pattern.compile("^\\| `(\\w+)` \\|");
    private static final int LEAST_CALLS = 35;

    private ReadmeTest() {
    }

    static void run() {
        Path project = Path.of(System.getProperty("project"));
        try {
            List<String> readme = Files.readAllLines(project.resolve("README.md"));
            checkExamples(readme);
            Checks.same("the tests that README.md names", namedTests(readme), tests(project));
        } catch (IOException | ReflectiveOperationException e) {
            Checks.same("README.md can be tested", e + " " + e.getCause(), "");
        }
    }

    // ---- the examples

    /** All examples are one run on one object, so they become one method, which gathers what the calls answer. */
    private static void checkExamples(List<String> readme) throws IOException, ReflectiveOperationException {
        List<String> program = new ArrayList<>();
        List<String> calls = new ArrayList<>();
        List<String> dues = new ArrayList<>();
        for (String row : examplesOf(readme)) {
            Matcher call = CALL.matcher(row);
            if (call.matches()) {
                calls.add(call.group(1));
                dues.add(call.group(2).split(":")[0]);
                program.add("try { answers.add(String.valueOf(" + call.group(1) + ")); }"
                        + " catch (RuntimeException e) { answers.add(\"throws \" + e.getClass().getSimpleName()); }");
            } else {
                program.add(row);
            }
        }
        List<?> answers = run(program);
        Checks.same("README.md has its examples", calls.size() >= LEAST_CALLS, true);
        Checks.same("the number of answers", answers.size(), calls.size());
        for (int i = 0; i < calls.size(); i++) {
            Checks.same("README.md: " + calls.get(i), answers.get(i), dues.get(i));
        }
    }

    private static List<String> examplesOf(List<String> readme) {
        List<String> rows = new ArrayList<>();
        boolean inside = false;
        for (String row : readme) {
            if (row.startsWith("```")) {
                inside = row.equals("```java");
            } else if (inside) {
                rows.add(row);
            }
        }
        return rows;
    }

    private static List<?> run(List<String> program) throws IOException, ReflectiveOperationException {
        Path folder = Files.createTempDirectory("readme");
        try {
            Path source = folder.resolve("ReadmeExamples.java");
            Files.writeString(source, "public final class ReadmeExamples {\npublic static java.util.List<String> run() {\n"
                    + "java.util.List<String> answers = new java.util.ArrayList<>();\n" + String.join("\n", program)
                    + "\nreturn answers;\n}\n}\n");
            Checks.same("the examples of README.md compile", ToolProvider.getSystemJavaCompiler().run(null, null, null,
                    "-cp", System.getProperty("java.class.path"), "-d", folder.toString(), source.toString()), 0);
            try (URLClassLoader loader = new URLClassLoader(new URL[] {folder.toUri().toURL()})) {
                return (List<?>) loader.loadClass("ReadmeExamples").getMethod("run").invoke(null);
            }
        } finally {
            removeFiles(folder);
        }
    }

    private static void removeFiles(Path folder) throws IOException {
        try (Stream<Path> files = Files.list(folder)) {
            for (Path file : files.toList()) {
                Files.delete(file);
            }
        }
        Files.delete(folder);
    }

    // ---- the tables

    private static TreeSet<String> namedTests(List<String> readme) {
        TreeSet<String> named = new TreeSet<>();
        for (String row : readme) {
            Matcher matcher = NAMED.matcher(row);
            if (matcher.find()) {
                named.add(matcher.group(1));
            }
        }
        return named;
    }

    private static TreeSet<String> tests(Path project) throws IOException {
        TreeSet<String> tests = new TreeSet<>();
        Path folder = project.resolve("src").resolve("test").resolve("java");
        String all = Files.readString(folder.resolve("AllTests.java"));
        try (Stream<Path> files = Files.list(folder)) {
            for (Path file : files.toList()) {
                String name = file.getFileName().toString().replace(".java", "");
                if (name.endsWith("Test")) {
                    tests.add(name);
                    Checks.same("AllTests runs " + name, all.contains("        " + name + ".run();"), true);
                }
            }
        }
        return tests;
    }
}
