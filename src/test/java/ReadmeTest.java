import java.io.IOException;
import java.io.InputStream;
import java.io.UncheckedIOException;
import java.lang.reflect.Method;
import java.lang.reflect.Modifier;
import java.nio.charset.StandardCharsets;
import java.nio.file.Files;
import java.nio.file.Path;
import java.util.ArrayList;
import java.util.Comparator;
import java.util.List;
import java.util.TreeSet;
import java.util.regex.Matcher;
import java.util.regex.Pattern;
import java.util.stream.Stream;

/** What README.md says of the use of the class and of its tests, held against what stands. */
final class ReadmeTest {
    private static final Path SHARED = Path.of("../shared");
    private static final String ALL_TESTS = "bash .ci/run\n";
    private static final Pattern BLOCK = Pattern.compile("^```(\\w*)\\n(.*?)^```$", Pattern.MULTILINE | Pattern.DOTALL);
    private static final Pattern TEST_NAME = Pattern.compile("`(\\w+Test)`");
    private static final Pattern ROW_OF_CALLS = Pattern.compile("^\\| (`[^|]*`) \\| ", Pattern.MULTILINE);
    private static final Pattern CALL = Pattern.compile("`(\\w+)`");

    private final String readme;
    private final Path checkout;

    private ReadmeTest(Path checkout) {
        this.readme = textOf(Path.of("README.md"));
        this.checkout = checkout;
    }

    public static void main(String[] args) throws IOException {
        Path room = Files.createTempDirectory("readme");
        try {
            ReadmeTest test = new ReadmeTest(Files.createDirectory(room.resolve("main")));
            Files.createSymbolicLink(room.resolve("shared"), SHARED.toRealPath());
            test.copySources();
            test.example();
            test.commandsOfTests();
            test.names();
        } finally {
            remove(room);
        }
        Check.end("ReadmeTest");
    }

    private void example() {
        Check.sentence("README: the example is the program that stands", () -> Check.due(
                List.of(textOf(Path.of("src/example/java/Example.java"))), "the example", () -> blocks("java", readme)));
        Check.sentence("README: the commands of \"Use\" work, and print what is told there", () -> {
            String use = section("Use");
            List<String> commands = blocks("sh", use);
            Check.due(1, "blocks of commands", commands::size);
            for (String each : commands) {
                Check.due(blocks("text", use), each, () -> List.of(outputOf(each)));
            }
        });
    }

    private void commandsOfTests() {
        Check.sentence("README: the commands of \"Tests\" work", () -> {
            List<String> commands = blocks("sh", section("Tests"));
            Check.due(true, "the command of all tests", () -> commands.remove(ALL_TESTS));
            Check.due(true, ".ci/run can be run", () -> Files.isExecutable(Path.of(".ci/run")));
            Check.due(2, "the other blocks of commands", commands::size);
            for (String each : commands) {
                Check.taken(each, () -> outputOf(each));
            }
        });
    }

    private void names() {
        Check.sentence("README: it names each test of the project, and no other", () -> Check.due(testsThatStand(),
                "the tests", () -> found(TEST_NAME, readme)));
        Check.sentence("README: it names each call of the class, and no other", () -> Check.due(callsThatStand(),
                "the calls", () -> found(CALL, String.join(" ", found(ROW_OF_CALLS, section("Use"))))));
    }

    private String section(String title) {
        int start = readme.indexOf("\n## " + title + "\n");
        if (start < 0) {
            return "";
        }
        int end = readme.indexOf("\n## ", start + 1);
        return readme.substring(start, end < 0 ? readme.length() : end);
    }

    private static List<String> blocks(String kind, String text) {
        List<String> blocks = new ArrayList<>();
        Matcher matcher = BLOCK.matcher(text);
        while (matcher.find()) {
            if (matcher.group(1).equals(kind)) {
                blocks.add(matcher.group(2));
            }
        }
        return blocks;
    }

    private static TreeSet<String> found(Pattern pattern, String text) {
        TreeSet<String> found = new TreeSet<>();
        Matcher matcher = pattern.matcher(text);
        while (matcher.find()) {
            found.add(matcher.group(1));
        }
        return found;
    }

    private static TreeSet<String> callsThatStand() {
        TreeSet<String> calls = new TreeSet<>();
        calls.add(Releaseledger.class.getSimpleName());
        for (Method method : Releaseledger.class.getDeclaredMethods()) {
            if (Modifier.isPublic(method.getModifiers())) {
                calls.add(method.getName());
            }
        }
        return calls;
    }

    private static TreeSet<String> testsThatStand() {
        TreeSet<String> tests = new TreeSet<>();
        for (Path file : filesUnder(Path.of("src/test/java"))) {
            String name = file.getFileName().toString();
            if (name.endsWith("Test.java")) {
                tests.add(name.substring(0, name.length() - ".java".length()));
            }
        }
        return tests;
    }

    /** The commands run in a copy, so that what they leave is not found in the checkout. */
    private void copySources() throws IOException {
        for (Path file : filesUnder(Path.of("src"))) {
            Path copy = checkout.resolve(file);
            Files.createDirectories(copy.getParent());
            Files.copy(file, copy);
        }
    }

    /** The output of commands that end with exit code 0; others are told by an exception. */
    private String outputOf(String commands) {
        try {
            Process process = new ProcessBuilder("bash", "-e", "-c", commands).directory(checkout.toFile())
                    .redirectErrorStream(true).start();
            process.getOutputStream().close();
            String output;
            try (InputStream told = process.getInputStream()) {
                output = new String(told.readAllBytes(), StandardCharsets.UTF_8);
            }
            if (process.waitFor() != 0) {
                System.out.print(output);
                throw new IllegalStateException("a command failed");
            }
            return output;
        } catch (IOException e) {
            throw new UncheckedIOException(e);
        } catch (InterruptedException e) {
            throw new IllegalStateException(e);
        }
    }

    private static String textOf(Path file) {
        try {
            return Files.readString(file);
        } catch (IOException e) {
            throw new UncheckedIOException(e);
        }
    }

    private static List<Path> filesUnder(Path directory) {
        try (Stream<Path> files = Files.walk(directory)) {
            return files.filter(Files::isRegularFile).toList();
        } catch (IOException e) {
            throw new UncheckedIOException(e);
        }
    }

    private static void remove(Path directory) throws IOException {
        List<Path> deepestFirst;
        try (Stream<Path> files = Files.walk(directory)) {
            deepestFirst = files.sorted(Comparator.reverseOrder()).toList();
        }
        for (Path file : deepestFirst) {
            Files.delete(file);
        }
    }
}
