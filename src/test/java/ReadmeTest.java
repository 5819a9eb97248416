import java.io.IOException;
import java.lang.reflect.Method;
import java.lang.reflect.Modifier;
import java.nio.file.Files;
import java.nio.file.Path;
import java.util.ArrayList;
import java.util.Comparator;
import java.util.List;
import java.util.Set;
import java.util.TreeSet;
import java.util.regex.Matcher;
import java.util.regex.Pattern;
import java.util.stream.Collectors;
import java.util.stream.Stream;

/**
 * What README.md shows holds: its lines of Java become the main method of a YourGame.java, which is compiled and
 * started with the commands that stand there; the answers behind the calls are the ones that are due. The command for
 * the tests is the script that runs them all.
 */
final class ReadmeTest {
    private static final Path README = Path.of("README.md");
    private static final Path CLASS = Path.of("src/main/java/RustRails.java");
    private static final Path TESTS = Path.of("src/test/java");
    private static final Pattern ANSWER = Pattern.compile(
            "^\\s*(game\\.\\w+\\(.*\\));\\s*// (-?\\d+|NONE|throws \\w+)(?=,|$).*");
    private static final Pattern TOLD_CALL = Pattern.compile("`(\\w+)\\(([a-z, ]*)\\)`");

    private final Checks checks = new Checks();
    private final List<String> program = new ArrayList<>();
    private final List<String> commandsOfUse = new ArrayList<>();
    private final List<String> commandsOfTests = new ArrayList<>();
    private final StringBuilder prose = new StringBuilder();
    private int answers;

    public static void main(String[] args) throws IOException, InterruptedException {
        ReadmeTest test = new ReadmeTest();
        test.read();
        test.checks.same("NONE is told", test.prose.indexOf("the number " + RustRails.NONE + ":") > 0 ? "" : "not", "");
        test.playProgram();
        test.compareCalls();
        test.lookAtCommandOfTests();
        test.checks.end();
    }

    private void read() throws IOException {
        String chapter = "";
        String fence = "";
        int number = 0;
        for (String line : Files.readAllLines(README)) {
            number++;
            if (line.startsWith("```")) {
                fence = line.equals("```") ? "" : line;
            } else if (fence.equals("```java")) {
                program.add(statementOf(line, number));
            } else if (fence.equals("```sh")) {
                (chapter.equals("## Tests") ? commandsOfTests : commandsOfUse).add(line);
            } else {
                checks.same("README.md line " + number + " is in a block of no known kind", fence, "");
                chapter = line.startsWith("## ") ? line : chapter;
                prose.append(line).append('\n');
            }
        }
    }

    /** A call with an answer becomes a comparison; only the calls in a loop have none. */
    private String statementOf(String line, int number) {
        Matcher answer = ANSWER.matcher(line);
        if (!answer.matches()) {
            boolean isCall = line.startsWith("game.");
            checks.same("README.md line " + number + " is a call without an answer", isCall ? line : "", "");
            return line;
        }
        answers++;
        String want = answer.group(2).replace("throws ", "").replace("NONE", "" + RustRails.NONE);
        return "due(\"README.md line " + number + ": " + answer.group(1).replace("\"", "\\\"") + "\", \"" + want
                + "\", () -> " + answer.group(1) + ");";
    }

    // ---- the program

    private void playProgram() throws IOException, InterruptedException {
        checks.same("README.md shows calls with answers", answers >= 40 ? "" : answers + " of them", "");
        checks.same("commands to use the class", commandsOfUse.size() + "", "2");
        Path place = Files.createTempDirectory("readme");
        try {
            Files.createDirectories(place.resolve(CLASS).getParent());
            Files.copy(CLASS, place.resolve(CLASS));
            Files.write(place.resolve("YourGame.java"), yourGame());
            for (String command : commandsOfUse) {
                Process process = new ProcessBuilder("sh", "-c", command).directory(place.toFile()).inheritIO().start();
                checks.same("exit code of " + command, process.waitFor() + "", "0");
            }
        } finally {
            remove(place);
        }
    }

    private List<String> yourGame() {
        List<String> lines = new ArrayList<>(List.of(
                "public final class YourGame {",
                "    private static int wrong;",
                "    private static void due(String what, String want, java.util.function.IntSupplier call) {",
                "        String got;",
                "        try {",
                "            got = Integer.toString(call.getAsInt());",
                "        } catch (RuntimeException e) {",
                "            got = e.getClass().getSimpleName();",
                "        }",
                "        if (!got.equals(want)) {",
                "            System.out.println(what + \": \" + got + \", not \" + want);",
                "            wrong++;",
                "        }",
                "    }",
                "    public static void main(String[] args) {"));
        lines.addAll(program);
        lines.addAll(List.of("        System.exit(wrong == 0 ? 0 : 1);", "    }", "}"));
        return lines;
    }

    private static void remove(Path place) throws IOException {
        List<Path> all;
        try (Stream<Path> found = Files.walk(place)) {
            all = found.sorted(Comparator.reverseOrder()).collect(Collectors.toList());
        }
        for (Path path : all) {
            Files.delete(path);
        }
    }

    // ---- the calls that it names

    private void compareCalls() {
        Set<String> face = new TreeSet<>();
        for (Method method : RustRails.class.getDeclaredMethods()) {
            if (Modifier.isPublic(method.getModifiers())) {
                face.add(method.getName() + " with " + method.getParameterCount());
            }
        }
        Set<String> told = new TreeSet<>();
        Matcher call = TOLD_CALL.matcher(prose);
        while (call.find()) {
            int count = call.group(2).isEmpty() ? 0 : call.group(2).split(",").length;
            told.add(call.group(1) + " with " + count);
        }
        checks.same("the calls that README.md names, with so many arguments", told.toString(), face.toString());
    }

    // ---- the command for the tests

    private void lookAtCommandOfTests() throws IOException {
        checks.same("the command for the tests", commandsOfTests.toString(), "[.ci/run]");
        Path script = Path.of(".ci/run");
        checks.same("it can be started", Files.isExecutable(script) + "", "true");
        String text = Files.readString(script);
        checks.same("it runs the tests of the project", text.contains("in src/test/java/*Test.java") + "", "true");
        checks.same("it runs the shared tests", text.contains("in ../shared/tests/*.java") + "", "true");
        try (Stream<Path> files = Files.list(TESTS)) {
            for (Path file : files.sorted().collect(Collectors.toList())) {
                boolean isTest = file.toString().endsWith("Test.java");
                boolean hasMain = Files.readString(file).contains("static void main(String[] args)");
                checks.same(file + " is a test, and has a name by which it is found", hasMain + "", isTest + "");
            }
        }
    }
}
