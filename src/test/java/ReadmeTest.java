import java.io.IOException;
import java.nio.charset.StandardCharsets;
import java.nio.file.Files;
import java.nio.file.Path;
import java.util.ArrayList;
import java.util.List;
import java.util.regex.Matcher;
import java.util.regex.Pattern;

/** The example of README.md, compiled and run as it stands there: it prints the answers behind its lines. */
public final class ReadmeTest extends Checks {
    private static final Path README = Path.of("README.md");
    private static final Path CLASS = Path.of("src", "main", "java", "PetriNet.java");
    private static final Pattern CALL = Pattern.compile("\\bnet\\.([a-zA-Z]+)\\(");
    private static final Pattern ANSWER = Pattern.compile("System\\.out\\.println\\(.*\\); *// ([^:]*)(:.*)?");

    private static List<String> example() throws IOException {
        List<String> lines = new ArrayList<>();
        boolean isInside = false;
        for (String line : Files.readAllLines(README)) {
            if (line.startsWith("```")) {
                isInside = line.equals("```java");
            } else if (isInside) {
                lines.add(line);
            }
        }
        return lines;
    }

    /** What the command prints; it is due to end without an error. */
    private static String outputOf(String... command) throws IOException, InterruptedException {
        Process process = new ProcessBuilder(command).redirectError(ProcessBuilder.Redirect.INHERIT).start();
        String output = new String(process.getInputStream().readAllBytes(), StandardCharsets.UTF_8);
        int exitCode = process.waitFor();
        due(0, () -> exitCode);
        return output;
    }

    /** What the example prints, line by line. */
    private static String[] printed(List<String> example, Path directory) throws IOException, InterruptedException {
        Path source = directory.resolve("Example.java");
        Files.write(source, example);
        outputOf("javac", "-d", directory.toString(), CLASS.toString(), source.toString());
        return outputOf("java", "-cp", directory.toString(), "Example").split("\\R");
    }

    /** A line that asks nothing itself belongs to the promise of the call ahead of it. */
    private static int promiseOfLine(String line, int ahead) {
        if (line.contains("report(net)")) {
            return promiseOf("writeMarking");
        }
        Matcher call = CALL.matcher(line);
        return call.find() ? promiseOf(call.group(1)) : ahead;
    }

    private static void compare(List<String> example, String[] printed) {
        int promise = 1;
        int answers = 0;
        for (String line : example) {
            promise = promiseOfLine(line, promise);
            if (line.contains("System.out.println(")) {
                begin(promise, "README.md: " + line.trim());
                Matcher answer = ANSWER.matcher(line);
                String want = answer.find() ? answer.group(1) : "an answer behind the line";
                String got = answers < printed.length ? printed[answers] : "nothing";
                due(want, () -> got);
                answers++;
            }
        }
        begin(1, "README.md: the example prints just the lines that stand there");
        final int count = answers;
        due(true, () -> count > 0);
        due(count, () -> printed.length);
    }

    private static void clear(Path directory) throws IOException {
        try (var files = Files.list(directory)) {
            for (Path file : files.toList()) {
                Files.delete(file);
            }
        }
        Files.delete(directory);
    }

    public static void main(String[] args) throws IOException, InterruptedException {
        Path directory = Files.createTempDirectory("readme");
        begin(1, "README.md: the example compiles together with the class, and ends without an exception");
        try {
            List<String> example = example();
            compare(example, printed(example, directory));
        } finally {
            clear(directory);
        }
        finish();
    }
}
