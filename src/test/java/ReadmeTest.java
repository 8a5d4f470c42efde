import java.io.IOException;
import java.lang.ProcessBuilder.Redirect;
import java.nio.file.Files;
import java.nio.file.Path;
import java.util.Comparator;
import java.util.List;
import java.util.regex.Matcher;
import java.util.regex.Pattern;
import java.util.stream.Collectors;
import java.util.stream.Stream;

/** The example in README.md, compiled and run as it says there, prints what it says there. Runs in the project's folder. */
public final class ReadmeTest {
    private ReadmeTest() {
    }

    public static void main(String[] args) throws Exception {
        String readme = Files.readString(Path.of("README.md"));
        Path folder = Files.createTempDirectory("example");
        try {
            Files.copy(Path.of("src/main/java/EarlyDrops.java"), folder.resolve("EarlyDrops.java"));
            Files.writeString(folder.resolve("Example.java"), block(readme, "java"));
            Checks.due("compiling the example", "0 ", () -> done(folder, "javac", "EarlyDrops.java", "Example.java"));
            Checks.due("running the example", "0 " + block(readme, "text"), () -> done(folder, "java", "-cp", ".", "Example"));
        } finally {
            remove(folder);
        }
        Checks.end();
    }

    private static String block(String readme, String language) {
        Matcher m = Pattern.compile("(?s)```" + language + "\n(.*?)```").matcher(readme);
        return m.find() ? m.group(1) : "none in README.md";
    }

    /** Runs a command; its exit code and what it printed, without what the Java machine says of itself beside that. */
    private static String done(Path folder, String... command) {
        try {
            Process process = new ProcessBuilder(command).directory(folder.toFile()).redirectError(Redirect.INHERIT).start();
            String printed = new String(process.getInputStream().readAllBytes());
            return process.waitFor() + " " + printed.replace(System.lineSeparator(), "\n");
        } catch (IOException | InterruptedException e) {
            return command[0] + " does not run: " + e;
        }
    }

    private static void remove(Path folder) throws IOException {
        try (Stream<Path> all = Files.walk(folder)) {
            List<Path> inside = all.sorted(Comparator.reverseOrder()).collect(Collectors.toList());
            for (Path one : inside) {
                Files.delete(one);
            }
        }
    }
}
