import java.io.File;
import java.io.IOException;
import java.lang.reflect.Method;
import java.lang.reflect.Modifier;
import java.nio.charset.StandardCharsets;
import java.nio.file.Files;
import java.nio.file.Path;
import java.util.ArrayList;
import java.util.List;
import java.util.regex.Matcher;
import java.util.regex.Pattern;

/**
 * What README.md shows as an answer is what the class answers. Its calls and its program are compiled
 * and run as they stand there; it is run in the project's directory.
 */
final class ReadmeTest {
    private static final Path README = Path.of("README.md");
    private static final Path PLACE = Path.of("build", "readme");
    private static final String FENCE = "```";
    private static final String CALLS = "```java";
    private static final String PRINTS = "```text";
    private static final Pattern MADE = Pattern.compile("KindParser \\w+ = new KindParser\\(\\);");
    private static final Pattern CALL = Pattern.compile(
            "(?<call>\\w+\\.(?<method>\\w+)\\([^;]*\\)); +// (?<answer>-?\\d+|true|false|throws \\w+)(: .*)?");

    public static void main(String[] args) throws IOException, InterruptedException {
        Checks.sentence("README.md: What README.md shows as an answer is what the class answers");
        List<String> lines = Files.readAllLines(README, StandardCharsets.UTF_8);
        List<List<String>> blocks = blocks(lines, CALLS);
        List<List<String>> prints = blocks(lines, PRINTS);
        Checks.due("blocks of calls, and one program", blocks.size() > 1, true);
        Checks.due("what programs print", prints.size(), 1);
        if (blocks.size() > 1 && prints.size() == 1) {
            List<String> program = blocks.remove(blocks.size() - 1);
            steps(blocks);
            program(program, prints.get(0));
        }
        everyTest(String.join("\n", lines));
        Checks.end();
    }

    /** The lines of each block that begins with a mark. */
    private static List<List<String>> blocks(List<String> lines, String mark) {
        List<List<String>> blocks = new ArrayList<>();
        String open = "";
        for (String line : lines) {
            if (line.startsWith(FENCE)) {
                open = open.isEmpty() ? line : "";
                Checks.due("\"" + line + "\" ends a block or begins one that is tested", List.of("", CALLS, PRINTS).contains(open), true);
                if (open.equals(mark)) {
                    blocks.add(new ArrayList<>());
                }
            } else if (open.equals(mark)) {
                blocks.get(blocks.size() - 1).add(line);
            }
        }
        return blocks;
    }

    /** Makes one program of all the calls, which prints an answer a line. */
    private static void steps(List<List<String>> blocks) throws IOException, InterruptedException {
        List<String> source = new ArrayList<>(List.of("final class Steps {", "public static void main(String[] args) {"));
        List<Matcher> calls = new ArrayList<>();
        for (List<String> block : blocks) {
            for (String line : block) {
                Matcher call = CALL.matcher(line);
                if (call.matches()) {
                    calls.add(call);
                    source.add("try { System.out.println(" + call.group("call") + "); } catch (RuntimeException e) {");
                    source.add("System.out.println(\"throws \" + e.getClass().getSimpleName()); }");
                } else {
                    Checks.due("\"" + line + "\" makes an object, or is a call with its answer", MADE.matcher(line).matches(), true);
                    source.add(line);
                }
            }
        }
        source.addAll(List.of("}", "}"));
        compare(calls, run("Steps", source));
        everyMethod(calls);
    }

    private static void compare(List<Matcher> calls, List<String> answers) {
        Checks.due("how many calls are answered", answers.size(), calls.size());
        for (int at = 0; at < Math.min(answers.size(), calls.size()); at++) {
            Checks.same(calls.get(at).group("call"), answers.get(at), calls.get(at).group("answer"));
        }
    }

    private static void everyMethod(List<Matcher> calls) {
        for (Method method : KindParser.class.getDeclaredMethods()) {
            if (Modifier.isPublic(method.getModifiers())) {
                boolean shown = calls.stream().anyMatch(call -> call.group("method").equals(method.getName()));
                Checks.due("a call of " + method.getName() + " is shown", shown, true);
            }
        }
    }

    private static void program(List<String> source, List<String> want) throws IOException, InterruptedException {
        List<String> printed = run("Example", source);
        Checks.due("how many lines the program prints", printed.size(), want.size());
        for (int at = 0; at < Math.min(printed.size(), want.size()); at++) {
            Checks.same("line " + (at + 1) + " of what the program prints", printed.get(at), want.get(at));
        }
    }

    /** Compiles a class as a reader would, and runs it: what it prints. */
    private static List<String> run(String name, List<String> source) throws IOException, InterruptedException {
        Files.createDirectories(PLACE);
        Path file = PLACE.resolve(name + ".java");
        Files.write(file, source, StandardCharsets.UTF_8);
        Files.deleteIfExists(PLACE.resolve(name + ".class"));
        output("javac", "-d", PLACE.toString(), "src/main/java/KindParser.java", file.toString());
        return output("java", "-cp", PLACE.toString(), name);
    }

    /** What a command prints; what it says of errors goes to the reader. */
    private static List<String> output(String... command) throws IOException, InterruptedException {
        Process process = new ProcessBuilder(command).redirectError(ProcessBuilder.Redirect.INHERIT).start();
        String printed = new String(process.getInputStream().readAllBytes(), StandardCharsets.UTF_8);
        Checks.due(String.join(" ", command) + " ends with", process.waitFor(), 0);
        return printed.lines().toList();
    }

    private static void everyTest(String readme) {
        File[] files = new File("src/test/java").listFiles();
        Checks.due("the tests are found", files != null && files.length > 0, true);
        if (files != null) {
            for (File file : files) {
                String name = file.getName().replace(".java", "");
                Checks.due("`" + name + "` is named", readme.contains("`" + name), true);
            }
        }
    }
}
