import java.io.IOException;
import java.nio.file.Files;
import java.nio.file.Path;
import java.util.ArrayList;
import java.util.List;
import java.util.regex.Matcher;
import java.util.regex.Pattern;
import java.util.stream.Stream;

/** README.md names each method and each test, and the calls in it answer what it says. */
final class ReadmeTest {
    private static final Path FILE = Path.of("README.md");
    private static final Path TESTS = Path.of("src/test/java");
    /** A call of the face, and its answer up to a ':'. */
    private static final Pattern ROW = Pattern.compile("club\\.(.*\\)); +// ([^:]*)(:.*)?");

    private final Checks checks;
    private final List<String> lines;

    private ReadmeTest(Checks checks, List<String> lines) {
        this.checks = checks;
        this.lines = lines;
    }

    static void run(Checks checks) {
        try (Stream<Path> tests = Files.list(TESTS)) {
            ReadmeTest test = new ReadmeTest(checks, Files.readAllLines(FILE));
            test.rows();
            tests.map(path -> path.getFileName().toString().replace(".java", ""))
                .filter(name -> name.endsWith("Test")).forEach(test::namesTest);
        } catch (IOException e) {
            checks.due("README.md and the tests are read", "they are", e.toString());
        }
    }

    private void namesTest(String name) {
        checks.due("README.md names " + name, true, String.join(" ", lines).contains("`" + name + "`"));
    }

    private void rows() {
        List<String> called = new ArrayList<>();
        StringBuilder rows = new StringBuilder();
        for (String line : lines) {
            Matcher row = ROW.matcher(line.strip());
            boolean isRow = row.matches();
            checks.due("README.md, a call and its answer: " + line, line.startsWith("club."), isRow);
            if (isRow) {
                called.add(row.group(1).substring(0, row.group(1).indexOf('(')));
                rows.append(row.group(1)).append(" = ").append(row.group(2).strip()).append(";");
            }
        }
        checks.script("README.md", rows.toString());
        for (String name : FaceTest.names()) {
            checks.due("README.md calls " + name, true, called.contains(name));
        }
    }
}
