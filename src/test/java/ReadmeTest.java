import java.io.IOException;
import java.lang.reflect.Method;
import java.nio.charset.StandardCharsets;
import java.nio.file.Files;
import java.nio.file.Path;
import java.util.ArrayList;
import java.util.List;
import java.util.Set;
import java.util.TreeSet;
import java.util.regex.Matcher;
import java.util.regex.Pattern;
import java.util.stream.Collectors;
import java.util.stream.Stream;

/** README.md shows nothing that is not so: its commands are run as they stand, and its tables are complete. */
public final class ReadmeTest {
    private static final Path EXAMPLE = Path.of("src/example/java/FirstHub.java");

    private record Block(String sort, String text) { }

    private final Checks checks = new Checks();
    private final String readme;
    private final List<Block> blocks;

    private ReadmeTest() throws IOException {
        readme = Files.readString(Path.of("README.md"));
        blocks = blocksOf(readme);
    }

    public static void main(String[] args) throws IOException, InterruptedException {
        ReadmeTest test = new ReadmeTest();
        test.example();
        test.commands();
        test.allTests();
        test.calls();
        test.tests();
        test.checks.end();
    }

    private static List<Block> blocksOf(String page) {
        List<Block> found = new ArrayList<>();
        Matcher fenced = Pattern.compile("(?ms)^```([a-z]+)\n(.*?)^```$").matcher(page);
        while (fenced.find()) {
            found.add(new Block(fenced.group(1), fenced.group(2)));
        }
        return found;
    }

    private List<String> textsOf(String sort) {
        return blocks.stream().filter(block -> block.sort.equals(sort)).map(Block::text).collect(Collectors.toList());
    }

    private void example() throws IOException {
        checks.at("README.md, the example");
        checks.due("its code, as the file has it", textsOf("java"), List.of(Files.readString(EXAMPLE)));
    }

    /** The first commands compile and run the example; what the others print is free. */
    private void commands() throws IOException, InterruptedException {
        List<String> commands = textsOf("sh");
        checks.at("README.md, the commands");
        checks.due("how many there are", commands.size(), 3);
        for (int i = 0; i < commands.size(); i++) {
            String printed = printedBy(commands.get(i));
            if (i == 0) {
                checks.due("what the example prints", textsOf("text"), List.of(printed));
            }
        }
    }

    private String printedBy(String commands) throws IOException, InterruptedException {
        Process process = new ProcessBuilder("sh", "-e", "-c", commands)
                .redirectError(ProcessBuilder.Redirect.INHERIT).start();
        process.getOutputStream().close();
        String printed = new String(process.getInputStream().readAllBytes(), StandardCharsets.UTF_8);
        int exit = process.waitFor();
        checks.due(commands + "printed " + printed + "and", exit, 0);
        return printed;
    }

    /** It runs this test too, so that it cannot be run from here. */
    private void allTests() {
        checks.at("README.md, all tests");
        checks.due("the command stands there", readme.contains("\n    .ci/run\n"), true);
        checks.due("it can be run", Files.isExecutable(Path.of(".ci/run")), true);
    }

    private void calls() throws IOException {
        checks.at("README.md, the calls");
        Set<String> due = new TreeSet<>();
        String doc = Files.readString(Path.of("../shared/DOC.md"));
        Matcher promise = Pattern.compile("(?m)^## Promise (\\d+): .*\n\n`(?:\\w+ )?(\\w+)\\(").matcher(doc);
        while (promise.find()) {
            due.add(promise.group(1) + " " + promise.group(2));
        }
        Set<String> told = rows("\\| (\\d+) \\| `(\\w+)` \\|");
        checks.due("the promises", told, due);
        for (Method method : ForesightHub.class.getMethods()) {
            if (method.getDeclaringClass() == ForesightHub.class) {
                checks.due(method.getName() + " is told",
                        told.stream().anyMatch(row -> row.endsWith(" " + method.getName())), true);
            }
        }
    }

    private void tests() throws IOException {
        checks.at("README.md, the tests");
        Set<String> due = new TreeSet<>();
        try (Stream<Path> files = Files.list(Path.of("src/test/java"))) {
            files.map(file -> file.getFileName().toString()).filter(name -> name.endsWith("Test.java"))
                    .forEach(name -> due.add("| " + name.replace(".java", "")));
        }
        checks.due("the table", rows("(\\|) `(\\w+Test)` \\|"), due);
    }

    /** Of each row that begins so the two groups. */
    private Set<String> rows(String start) {
        Set<String> rows = new TreeSet<>();
        Matcher row = Pattern.compile("(?m)^" + start).matcher(readme);
        while (row.find()) {
            rows.add(row.group(1) + " " + row.group(2));
        }
        return rows;
    }
}
