import java.io.IOException;
import java.nio.file.Files;
import java.nio.file.Path;
import java.util.Comparator;
import java.util.List;
import java.util.stream.Stream;

/**
 * What README.md says of .ci/run, run from the root of the project: the script is tried on small projects of this
 * test's own, one of them good and each other with one fault.
 */
public final class ScriptTest {
    private static final String PROGRAM = "src/main/java/ForcedChart.java";
    private static final String FIRST = "src/test/java/FirstTest.java";
    private static final String SECOND = "src/test/java/SecondTest.java";
    private static final String SHARED = "../shared/tests/Runs.java";

    /** A project under trial, with all that it takes to pass; the script runs from start() to end(). */
    private static final class Project {
        private final String name;
        private final Path base;
        private final Path root;
        private final Path printed;
        private Process script;

        Project(String name) throws IOException {
            this.name = name;
            base = Files.createTempDirectory("script");
            root = base.resolve("project");
            printed = base.resolve("printed");
            write(PROGRAM, "public final class ForcedChart { }");
            write("src/test/java/Help.java", "final class Help { static final int WRONG = 0; }");
            write(FIRST, test("FirstTest", "Help.WRONG"));
            write(SECOND, test("SecondTest", "Help.WRONG"));
            write(SHARED, test("Runs", "0"));
            Files.createDirectories(root.resolve(".ci"));
            Files.copy(Path.of(".ci/run"), root.resolve(".ci/run"));
        }

        void write(String file, String text) throws IOException {
            Path path = root.resolve(file).normalize();
            Files.createDirectories(path.getParent());
            Files.writeString(path, text);
        }

        void delete(String file) throws IOException {
            Files.delete(root.resolve(file).normalize());
        }

        /** The script finds its project wherever it is called from. */
        void start() throws IOException {
            ProcessBuilder call = new ProcessBuilder("sh", root.resolve(".ci/run").toString());
            script = call.directory(base.toFile()).redirectErrorStream(true).redirectOutput(printed.toFile()).start();
        }

        void end(int code, String... rows) throws Exception {
            Check.due(name + ": the script's code", script.waitFor(), code);
            List<String> lines = Files.readAllLines(printed);
            for (String row : rows) {
                Check.due(name + ": it prints " + row, lines.contains(row), true);
            }
            try (Stream<Path> files = Files.walk(base)) {
                for (Path file : (Iterable<Path>) files.sorted(Comparator.reverseOrder())::iterator) {
                    Files.delete(file);
                }
            }
        }
    }

    public static void main(String[] args) throws Exception {
        Check.about("README.md: How to run its tests");
        Check.due(".ci/run can be run", Files.isExecutable(Path.of(".ci/run")), true);
        Project good = new Project("all is good");
        Project own = new Project("a test of the project fails");
        own.write(FIRST, test("FirstTest", "1"));
        Project shared = new Project("a shared test fails");
        shared.write(SHARED, test("Runs", "1"));
        Project broken = new Project("a shared test does not compile");
        broken.write(SHARED, "public final class Runs {");
        Project without = new Project("there is no directory of shared tests");
        without.delete(SHARED);
        without.delete("../shared/tests");
        Project warned = new Project("the compiler warns of the program");
        warned.write(PROGRAM, "public final class ForcedChart { private final int n = (int) 1; }");

        List<Project> all = List.of(good, own, shared, broken, without, warned);
        for (Project project : all) {
            project.start();
        }
        good.end(0, "passed: " + FIRST, "passed: " + SECOND, "passed: " + SHARED);
        own.end(1, "wrong answers: 1", "FAILED: " + FIRST, "passed: " + SECOND, "passed: " + SHARED);
        shared.end(1, "passed: " + FIRST, "passed: " + SECOND, "wrong answers: 1", "FAILED: " + SHARED);
        broken.end(1, "FAILED: " + SHARED);
        without.end(1, "passed: " + FIRST, "passed: " + SECOND);
        warned.end(1, "FAILED: " + PROGRAM);
        Check.end();
    }

    private static String test(String name, String wrong) {
        return "public final class " + name + " { public static void main(String[] args) { "
                + "new ForcedChart(); int wrong = " + wrong + "; "
                + "System.out.println(\"wrong answers: \" + wrong); "
                + "if (wrong != 0) { System.exit(1); } } }";
    }
}
