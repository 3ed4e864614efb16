import java.io.IOException;
import java.lang.reflect.InvocationTargetException;
import java.lang.reflect.Method;
import java.lang.reflect.Modifier;
import java.nio.file.FileVisitOption;
import java.nio.file.Files;
import java.nio.file.Path;
import java.nio.file.StandardCopyOption;
import java.util.ArrayList;
import java.util.Arrays;
import java.util.Comparator;
import java.util.List;
import java.util.regex.Matcher;
import java.util.regex.Pattern;
import java.util.stream.Stream;

/**
 * README.md holds: its example answers as it says, it names each call, and the commands that it gives run all
 * tests from a clean checkout. It is run in the project's directory, as .ci/run does.
 */
public final class ReadmeTest {
    private static final Path SCRATCH = Path.of("build", "readme");
    private static final Path CHECKOUT = SCRATCH.resolve("main");
    private static final Path SHARED = SCRATCH.resolve("shared");
    private static final String TESTS = "src/test/java";
    private static final Pattern CALL =
            Pattern.compile("party\\.(\\w+)\\(([-\\d, ]*)\\);\\s+// (?:throws (\\w+)|(-?\\d+))(?:: .*)?");

    private static int wrong = 0;

    private static void due(String what, Object got, Object want) {
        if (!got.equals(want)) {
            wrong++;
            System.out.println(what + " is " + got + ", due is " + want);
        }
    }

    /** The blocks of README.md that are written in this language, without their indentation. */
    private static List<List<String>> blocks(List<String> readme, String language) {
        List<List<String>> blocks = new ArrayList<>();
        List<String> open = null;
        for (String line : readme) {
            if (line.strip().equals("```" + language)) {
                open = new ArrayList<>();
                blocks.add(open);
            } else if (line.strip().equals("```")) {
                open = null;
            } else if (open != null) {
                open.add(line.strip());
            }
        }
        return blocks;
    }

    // ---- how to use the class

    private static void exampleAnswersAsItSays(List<String> readme) {
        List<List<String>> examples = blocks(readme, "java");
        due("the number of examples", examples.size(), 1);
        for (List<String> example : examples) {
            due("the first line", example.get(0), "NumberGoblets party = new NumberGoblets();");
            NumberGoblets party = new NumberGoblets();
            for (String line : example.subList(1, example.size())) {
                lineAnswersAsItSays(party, line);
            }
        }
    }

    private static void lineAnswersAsItSays(NumberGoblets party, String line) {
        Matcher call = CALL.matcher(line);
        due("'" + line + "' is a call with its answer:", call.matches(), true);
        if (call.matches()) {
            String want = call.group(3) != null ? call.group(3) : call.group(4);
            due("the answer of '" + line + "'", answer(party, call.group(1), call.group(2)), want);
        }
    }

    private static String answer(NumberGoblets party, String name, String arguments) {
        Object[] given = Arrays.stream(arguments.split(",")).filter(text -> !text.isBlank())
                .map(text -> Integer.valueOf(text.strip())).toArray();
        Class<?>[] types = new Class<?>[given.length];
        Arrays.fill(types, int.class);
        try {
            return NumberGoblets.class.getMethod(name, types).invoke(party, given).toString();
        } catch (InvocationTargetException e) {
            return e.getCause().getClass().getSimpleName();
        } catch (ReflectiveOperationException e) {
            return "no such call";
        }
    }

    private static void tablesNameEachCall(List<String> readme) {
        for (Method method : NumberGoblets.class.getDeclaredMethods()) {
            String call = "`" + method.getName() + "(";
            boolean named = readme.stream().anyMatch(line -> line.startsWith("|") && line.contains(call));
            due(method.getName() + " is in a table:", named, Modifier.isPublic(method.getModifiers()));
        }
    }

    // ---- how to run its tests

    /** A copy of the project and of the shared tests, without this test, which would otherwise run itself again. */
    private static void makeCleanCheckout() throws IOException {
        delete(SCRATCH);
        copy(Path.of("../shared/tests"), SHARED.resolve("tests"));
        Files.createDirectories(CHECKOUT);
        try (Stream<Path> parts = Files.list(Path.of("."))) {
            for (Path part : parts.map(Path::normalize).toList()) {
                if (!part.equals(Path.of(".git")) && !part.equals(Path.of("build"))) {
                    copy(part, CHECKOUT.resolve(part));
                }
            }
        }
        Files.delete(CHECKOUT.resolve(TESTS).resolve("ReadmeTest.java"));
    }

    private static void copy(Path from, Path to) throws IOException {
        try (Stream<Path> paths = Files.walk(from, FileVisitOption.FOLLOW_LINKS)) {
            for (Path path : paths.toList()) {
                Path target = to.resolve(from.relativize(path).toString());
                if (Files.isDirectory(path)) {
                    Files.createDirectories(target);
                } else {
                    Files.createDirectories(target.toAbsolutePath().getParent());
                    Files.copy(path, target, StandardCopyOption.COPY_ATTRIBUTES);
                }
            }
        }
    }

    private static void delete(Path root) throws IOException {
        if (Files.exists(root)) {
            try (Stream<Path> paths = Files.walk(root)) {
                for (Path path : paths.sorted(Comparator.reverseOrder()).toList()) {
                    Files.delete(path);
                }
            }
        }
    }

    private static List<Path> testsUnder(Path directory) throws IOException {
        try (Stream<Path> paths = Files.walk(directory)) {
            return paths.filter(path -> path.toString().endsWith(".java")).sorted().toList();
        }
    }

    /** What the commands print in the clean checkout, with their exit code as the last line. */
    private static String run(List<String> commands) throws IOException, InterruptedException {
        Process process = new ProcessBuilder("sh", "-e", "-c", String.join("\n", commands))
                .directory(CHECKOUT.toFile()).redirectErrorStream(true).start();
        process.getOutputStream().close();
        String printed = new String(process.getInputStream().readAllBytes());
        return printed + "exit code " + process.waitFor() + "\n";
    }

    private static void commandsRunAllTests(List<List<String>> commands) throws IOException, InterruptedException {
        makeCleanCheckout();
        StringBuilder printed = new StringBuilder();
        for (List<String> block : commands) {
            String one = run(block);
            due(block + " passes:", one.endsWith("\nexit code 0\n"), true);
            printed.append(one);
        }
        List<Path> tests = new ArrayList<>(testsUnder(CHECKOUT.resolve(TESTS)));
        tests.addAll(testsUnder(SHARED.resolve("tests")));
        for (Path test : tests) {
            String name = CHECKOUT.relativize(test).toString();
            due("the commands run " + name + ":", printed.indexOf("== " + name + "\n") >= 0, true);
        }
    }

    /** With one test at each place the command passes; with one more that fails, it fails. */
    private static void commandFailsIfATestFails(List<String> command) throws IOException, InterruptedException {
        makeCleanCheckout();
        List<Path> places = List.of(CHECKOUT.resolve(TESTS), SHARED.resolve("tests"));
        for (Path place : places) {
            delete(place);
            Files.createDirectories(place);
            Files.writeString(place.resolve("Passes.java"), test("Passes", "new NumberGoblets().size();"));
        }
        due(command + " passes with tests that pass:", run(command).endsWith("\nexit code 0\n"), true);
        for (Path place : places) {
            Path failing = place.resolve("Fails.java");
            Files.writeString(failing, test("Fails", "System.exit(1);"));
            due(command + " passes with " + failing + ":", run(command).endsWith("\nexit code 0\n"), false);
            Files.delete(failing);
        }
    }

    private static String test(String name, String body) {
        return "public class " + name + " { public static void main(String[] args) { " + body + " } }\n";
    }

    public static void main(String[] args) throws IOException, InterruptedException {
        List<String> readme = Files.readAllLines(Path.of("README.md"));
        exampleAnswersAsItSays(readme);
        tablesNameEachCall(readme);
        List<List<String>> commands = blocks(readme, "sh");
        due("README.md gives commands:", commands.isEmpty(), false);
        if (!commands.isEmpty()) {
            commandsRunAllTests(commands);
            commandFailsIfATestFails(commands.get(0));
        }
        delete(SCRATCH);
        System.out.println(wrong == 0 ? "all answers are as due" : wrong + " answers are not as due");
        if (wrong != 0) {
            System.exit(1);
        }
    }
}
