import java.io.IOException;
import java.net.URL;
import java.net.URLClassLoader;
import java.nio.file.Files;
import java.nio.file.Path;
import java.util.ArrayList;
import java.util.List;
import java.util.Set;
import java.util.TreeSet;
import java.util.regex.Matcher;
import java.util.regex.Pattern;
import java.util.spi.ToolProvider;
import java.util.stream.Stream;

/** README.md: each call that it shows has the answer that it tells, and what it says of the tests is so. */
public final class ReadmeTest {
    private static final Check CHECK = new Check("ReadmeTest");
    private static final Path ROOT = Path.of(System.getProperty("chipboards.root", ""));
    private static final String NEW_OBJECT = "ChipBoards boards = new ChipBoards();";
    private static final Pattern CALL = Pattern.compile(
            "((?:int|boolean) (\\w+) = )?(boards\\.(\\w+)\\([^()]*\\)); +// (-?\\d+|true|false)(: .+)?");
    private static final Pattern TEST_ROW = Pattern.compile("\\| (\\w+Test) \\| .+ \\|");

    private final List<String> page;
    // Of each call that is shown: its line, and the answer that is told of it.
    private final List<String> shown = new ArrayList<>();
    private final List<String> due = new ArrayList<>();
    private final Set<String> names = new TreeSet<>();
    private final StringBuilder program = new StringBuilder();

    private ReadmeTest(List<String> page) {
        this.page = page;
    }

    public static void main(String[] args) throws Exception {
        ReadmeTest test = new ReadmeTest(Files.readAllLines(ROOT.resolve("README.md")));
        test.readProgram();
        test.answersAreAsTold();
        test.allCallsAreShown();
        test.allTestsAreNamed();
        test.wayToRunTheTests();
        CHECK.finish();
    }

    private void readProgram() {
        boolean inside = false;
        for (String line : page) {
            if (line.startsWith("```")) {
                inside = !inside && line.equals("```java");
            } else if (inside && !line.isEmpty()) {
                readLine(line);
            }
        }
        CHECK.due("fences are closed", inside, false);
        CHECK.due("calls within the 512 of an object", shown.size() <= 512, true);
    }

    private void readLine(String line) {
        Matcher call = CALL.matcher(line);
        if (line.equals(NEW_OBJECT)) {
            program.append(line).append('\n');
        } else if (call.matches()) {
            shown.add(line);
            due.add(call.group(5));
            names.add(call.group(4));
            // What the page shows stays as it is where it can be, so that it's the page that is compiled.
            if (call.group(1) == null) {
                program.append("all.add(").append(call.group(3)).append(");\n");
            } else {
                program.append(line).append("\nall.add(").append(call.group(2)).append(");\n");
            }
        } else {
            CHECK.due("a call with its answer: " + line, false, true);
        }
    }

    private void answersAreAsTold() throws Exception {
        List<?> answers = run("public final class Shown {\n"
                + "public static java.util.List<Object> answers() {\n"
                + "java.util.List<Object> all = new java.util.ArrayList<>();\n"
                + program + "return all;\n}\n}\n");
        CHECK.due("answers", answers.size(), due.size());
        for (int k = 0; k < Math.min(answers.size(), due.size()); k++) {
            CHECK.due(shown.get(k) + " (answered " + answers.get(k) + ")",
                    answers.get(k).toString().equals(due.get(k)), true);
        }
    }

    private static List<?> run(String source) throws Exception {
        Path folder = Files.createTempDirectory("readme");
        try {
            Path file = Files.writeString(folder.resolve("Shown.java"), source);
            int status = ToolProvider.findFirst("javac").orElseThrow().run(System.out, System.out, "-Xlint:all",
                    "-Werror", "-cp", System.getProperty("java.class.path"), "-d", folder.toString(), file.toString());
            CHECK.due("the program compiles", status, 0);
            if (status != 0) {
                return List.of();
            }
            try (URLClassLoader loader = new URLClassLoader(new URL[] {folder.toUri().toURL()})) {
                return (List<?>) loader.loadClass("Shown").getMethod("answers").invoke(null);
            }
        } finally {
            remove(folder);
        }
    }

    private static void remove(Path folder) throws IOException {
        try (Stream<Path> files = Files.list(folder)) {
            for (Path file : files.toList()) {
                Files.delete(file);
            }
        }
        Files.delete(folder);
    }

    private void allCallsAreShown() {
        for (String call : FaceTest.callNames()) {
            CHECK.due(call + " is shown", names.contains(call), true);
        }
    }

    private void allTestsAreNamed() throws IOException {
        Set<String> named = new TreeSet<>();
        for (String line : page) {
            Matcher row = TEST_ROW.matcher(line);
            if (row.matches()) {
                named.add(row.group(1));
            }
        }
        Set<String> there = new TreeSet<>();
        try (Stream<Path> files = Files.list(ROOT.resolve("src/test/java"))) {
            for (Path file : files.toList()) {
                String name = file.getFileName().toString();
                if (name.endsWith("Test.java")) {
                    there.add(name.substring(0, name.length() - ".java".length()));
                }
            }
        }
        CHECK.due("the table " + named + " has the tests " + there, named.equals(there), true);
    }

    private void wayToRunTheTests() {
        int at = page.indexOf("## Tests");
        boolean named = at >= 0 && page.subList(at, page.size()).contains("    .ci/run");
        CHECK.due("the page names .ci/run", named, true);
        CHECK.due(".ci/run can be run", Files.isExecutable(ROOT.resolve(".ci/run")), true);
    }
}
