import java.io.IOException;
import java.lang.reflect.Method;
import java.lang.reflect.Modifier;
import java.nio.charset.StandardCharsets;
import java.nio.file.Files;
import java.nio.file.Path;
import java.util.ArrayList;
import java.util.Arrays;
import java.util.Collection;
import java.util.List;
import java.util.TreeSet;
import java.util.regex.Matcher;
import java.util.regex.Pattern;
import java.util.stream.Stream;

/** What README.md says of the use of the class and of its tests. */
public final class ReadmeTest {
    private static final Path PROGRAM = Path.of("src/main/java/ToyRegatta.java");
    private static final Path TESTS = Path.of("src/test/java");
    private static final String TEST_COMMAND = ".ci/run";
    private static final Pattern CALL_ROW = Pattern.compile("\\| `(\\w+)\\(([^)]*)\\)` \\|.*");
    private static final Pattern TEST_ROW = Pattern.compile("\\| `(\\w+Test)` \\|.*");
    private static final Check CHECK = new Check();

    public static void main(String[] args) throws IOException, InterruptedException {
        List<String> readme = Files.readAllLines(Path.of("README.md"), StandardCharsets.UTF_8);
        List<String> commands = commands(readme);
        CHECK.due("there is a command for the tests, behind those for the example", commands.size() > 1, true);
        if (commands.size() > 1) {
            int last = commands.size() - 1;
            example(readme, commands.subList(0, last));
            testCommand(commands.get(last));
        }
        same("calls", calls(readme), callsOfTheClass());
        same("tests", testsNamed(readme), testsThere());
        CHECK.end("ReadmeTest");
    }

    /** The lines of the first block of this language. */
    private static List<String> block(List<String> readme, String language) {
        List<String> lines = new ArrayList<>();
        int start = readme.indexOf("```" + language);
        CHECK.due("there is a block of " + language, start >= 0, true);
        for (int i = start + 1; start >= 0 && i < readme.size() && !readme.get(i).equals("```"); i++) {
            lines.add(readme.get(i));
        }
        return lines;
    }

    /** The lines that are set in by four blanks, but not those inside blocks. */
    private static List<String> commands(List<String> readme) {
        List<String> found = new ArrayList<>();
        boolean inBlock = false;
        for (String line : readme) {
            if (line.startsWith("```")) {
                inBlock = !inBlock;
            } else if (!inBlock && line.startsWith("    ")) {
                found.add(line.strip());
            }
        }
        return found;
    }

    /** Does what README.md tells its reader to do, in a directory of its own. */
    private static void example(List<String> readme, List<String> commands) throws IOException, InterruptedException {
        Path home = Files.createTempDirectory("readme");
        try {
            Files.createDirectories(home.resolve(PROGRAM).getParent());
            Files.copy(PROGRAM, home.resolve(PROGRAM));
            Files.write(home.resolve("Example.java"), block(readme, "java"));
            List<String> printed = new ArrayList<>();
            for (String command : commands) {
                printed.addAll(run(command, home));
            }
            same("what the example prints", printed, block(readme, "text"));
        } finally {
            delete(home);
        }
    }

    private static List<String> run(String command, Path home) throws IOException, InterruptedException {
        // What the machine says of itself on the error stream is no answer of the example.
        Process process = new ProcessBuilder(command.split(" "))
            .directory(home.toFile()).redirectError(ProcessBuilder.Redirect.INHERIT).start();
        String output = new String(process.getInputStream().readAllBytes(), StandardCharsets.US_ASCII);
        CHECK.due(command + " ended with", process.waitFor(), 0);
        return output.lines().toList();
    }

    private static void delete(Path home) throws IOException {
        List<Path> inside;
        try (Stream<Path> found = Files.walk(home)) {
            inside = new ArrayList<>(found.toList());
        }
        // A directory stands ahead of what is in it, and can't be deleted before that.
        for (int i = inside.size() - 1; i >= 0; i--) {
            Files.delete(inside.get(i));
        }
    }

    private static void testCommand(String command) {
        same("the command for the tests", List.of(command), List.of(TEST_COMMAND));
        CHECK.due(command + " can be run", Files.isExecutable(Path.of(command)), true);
    }

    /** The name of each call that the table has, with how many numbers it is given. */
    private static TreeSet<String> calls(List<String> readme) {
        TreeSet<String> found = new TreeSet<>();
        for (String line : readme) {
            Matcher row = CALL_ROW.matcher(line);
            if (row.matches()) {
                int numbers = row.group(2).isEmpty() ? 0 : row.group(2).split(", ").length;
                found.add(row.group(1) + " of " + numbers);
            }
        }
        return found;
    }

    private static TreeSet<String> callsOfTheClass() {
        TreeSet<String> found = new TreeSet<>();
        for (Method method : ToyRegatta.class.getDeclaredMethods()) {
            if (Modifier.isPublic(method.getModifiers())) {
                found.add(method.getName() + " of " + method.getParameterCount());
            }
        }
        return found;
    }

    private static TreeSet<String> testsNamed(List<String> readme) {
        TreeSet<String> found = new TreeSet<>();
        for (String line : readme) {
            Matcher row = TEST_ROW.matcher(line);
            if (row.matches()) {
                found.add(row.group(1));
            }
        }
        return found;
    }

    private static TreeSet<String> testsThere() throws IOException {
        TreeSet<String> found = new TreeSet<>();
        try (Stream<Path> files = Files.list(TESTS)) {
            for (Path file : files.toList()) {
                String name = file.getFileName().toString();
                if (name.endsWith("Test.java")) {
                    found.add(name.substring(0, name.length() - ".java".length()));
                }
            }
        }
        return found;
    }

    private static void same(String what, Collection<String> got, Collection<String> want) {
        CHECK.due(what + " as due", got.size(), want.size());
        if (!Arrays.equals(got.toArray(), want.toArray())) {
            CHECK.tell(what + ": " + got + ", due is " + want);
        }
    }
}
