import java.io.IOException;
import java.net.URL;
import java.net.URLClassLoader;
import java.nio.file.DirectoryStream;
import java.nio.file.Files;
import java.nio.file.Path;
import java.util.ArrayList;
import java.util.List;
import java.util.Set;
import java.util.TreeSet;
import java.util.regex.Matcher;
import java.util.regex.Pattern;
import javax.tools.ToolProvider;

/**
 * README.md, run from the root of the project: the use that it shows compiles and answers as it says, with every call
 * of the face, and its table names every test.
 */
public final class ReadmeTest {
    private static final Path README = Path.of("README.md");
    private static final String PROGRAM = "ReadmeProgram";
    private static final String[] CALLS = {"step", "expression", "transition", "order", "action", "unreached", "start",
        "stop", "scan", "active", "time", "enabled", "outputs", "stored", "evolutions", "cleared", "lead", "period"};
    /** A statement, what is declared in it if anything, and the answer that stands behind it. */
    private static final Pattern ANSWERED = Pattern.compile(
            "(?:int (\\w+) = )?(chart\\.\\w+\\(.*\\)); +// (-?\\d+|true|false|REFUSED|UNSTABLE)(?:: .+)?");
    private static final Pattern SILENT = Pattern.compile(
            "ForcedChart chart = new ForcedChart\\(\\);|chart\\.stop\\(\\);");
    private static final Pattern NAMED_TEST = Pattern.compile("\\| `(\\w+)` \\|.*");

    private final StringBuilder program = new StringBuilder();
    private final List<String> calls = new ArrayList<>();
    private final List<String> dueAnswers = new ArrayList<>();

    public static void main(String[] args) throws Exception {
        Check.about("README.md: What a call answers stands behind it");
        List<String> shown = shownLines();
        checkThatAllIsShown(shown);
        new ReadmeTest().check(shown);
        checkTable();
        Check.end();
    }

    /** The lines of all Java blocks: each block goes on where the one before it has ended. */
    private static List<String> shownLines() throws IOException {
        List<String> shown = new ArrayList<>();
        boolean inside = false;
        for (String line : Files.readAllLines(README)) {
            if (line.startsWith("```")) {
                inside = line.equals("```java");
            } else if (inside && !line.isBlank()) {
                shown.add(line.strip());
            }
        }
        return shown;
    }

    private static void checkThatAllIsShown(List<String> shown) {
        for (String call : CALLS) {
            boolean isShown = false;
            for (String line : shown) {
                isShown |= line.contains("chart." + call + "(");
            }
            Check.due("README.md shows " + call, isShown, true);
        }
    }

    private void check(List<String> shown) throws Exception {
        writeProgram(shown);
        List<?> answers = run();
        Check.due("number of answers", answers.size(), calls.size());
        for (int i = 0; i < answers.size(); i++) {
            Check.due(calls.get(i), answers.get(i).toString(), dueAnswers.get(i));
        }
    }

    /** The shown statements as they are, but that each answer is kept. */
    private void writeProgram(List<String> shown) {
        program.append("public final class ").append(PROGRAM).append(" {\n");
        program.append("public static java.util.List<Object> run() {\n");
        program.append("java.util.List<Object> answers = new java.util.ArrayList<>();\n");
        for (String line : shown) {
            Matcher answered = ANSWERED.matcher(line);
            if (SILENT.matcher(line).matches()) {
                program.append(line).append('\n');
            } else if (answered.matches()) {
                writeAnswered(answered.group(1), answered.group(2), answered.group(3));
            } else {
                Check.due("a statement with its answer: " + line, false, true);
            }
        }
        program.append("return answers;\n}\n}\n");
    }

    private void writeAnswered(String name, String call, String answer) {
        if (name != null) {
            program.append("int ").append(name).append(" = ").append(call).append(";\n");
        }
        program.append("answers.add(").append(name != null ? name : call).append(");\n");
        calls.add(call);
        dueAnswers.add(answer.equals("REFUSED") ? "" + ForcedChart.REFUSED
                : answer.equals("UNSTABLE") ? "" + ForcedChart.UNSTABLE : answer);
    }

    /** Compiles and runs the program; answers what its calls answered. */
    private List<?> run() throws Exception {
        Path directory = Files.createTempDirectory("readme");
        Path source = directory.resolve(PROGRAM + ".java");
        Path compiled = directory.resolve(PROGRAM + ".class");
        Files.writeString(source, program);
        int code = ToolProvider.getSystemJavaCompiler().run(null, null, null, "-d", directory.toString(),
                "-cp", System.getProperty("java.class.path"), source.toString());
        Check.due("compiling what README.md shows", code, 0);
        List<?> answers = List.of();
        if (code == 0) {
            try (URLClassLoader loader = new URLClassLoader(new URL[] {directory.toUri().toURL()})) {
                answers = (List<?>) loader.loadClass(PROGRAM).getMethod("run").invoke(null);
            }
        }
        Files.deleteIfExists(compiled);
        Files.delete(source);
        Files.delete(directory);
        return answers;
    }

    private static void checkTable() throws IOException {
        Check.about("README.md: test of the project | about");
        Set<String> named = new TreeSet<>();
        for (String line : Files.readAllLines(README)) {
            Matcher row = NAMED_TEST.matcher(line);
            if (row.matches()) {
                named.add(row.group(1));
            }
        }
        Set<String> there = new TreeSet<>();
        try (DirectoryStream<Path> files = Files.newDirectoryStream(Path.of("src/test/java"), "*Test.java")) {
            for (Path file : files) {
                there.add(file.getFileName().toString().replace(".java", ""));
            }
        }
        Check.due("the tests in the table", named.toString(), there.toString());
    }
}
