import java.io.IOException;
import java.nio.file.Files;
import java.nio.file.Path;
import java.util.ArrayList;
import java.util.List;
import java.util.Set;
import java.util.TreeSet;
import javax.tools.ToolProvider;

/** README.md tells the truth: its program compiles, prints what stands behind each call, and no call is left out. */
public final class ReadmeTest {
    private static final String ANSWER = "); // ";

    public static void main(String[] args) throws Exception {
        List<String> readme = Files.readAllLines(Path.of("README.md"));
        List<String> program = programOf(readme);
        printsWhatIsTold(program);
        everyCallIsNamed(String.join("\n", readme));
        everyFileIsThere(readme);
        Due.end("ReadmeTest");
    }

    private static List<String> programOf(List<String> readme) {
        int from = readme.indexOf("```java");
        int to = from + readme.subList(from, readme.size()).indexOf("```");
        return readme.subList(from + 1, to);
    }

    private static void printsWhatIsTold(List<String> program) throws IOException, InterruptedException {
        List<String> told = new ArrayList<>();
        for (String line : program) {
            int at = line.indexOf(ANSWER);
            if (at >= 0) {
                told.add(line.substring(at + ANSWER.length()));
            }
        }
        Due.is("README.md tells answers", told.size() > 10, true);
        List<String> printed = run(program);
        Due.is("lines that README.md's program prints", printed.size(), told.size());
        for (int i = 0; i < Math.min(told.size(), printed.size()); i++) {
            Due.is("README.md's program prints " + printed.get(i) + " for " + told.get(i),
                    printed.get(i).equals(told.get(i)), true);
        }
    }

    private static List<String> run(List<String> program) throws IOException, InterruptedException {
        Path folder = Files.createTempDirectory("readme");
        Path source = folder.resolve("Try.java");
        Path printed = folder.resolve("printed");
        Files.write(source, program);
        int compiled = ToolProvider.getSystemJavaCompiler().run(null, null, null,
                "-d", folder.toString(), "src/main/java/SerialLink.java", source.toString());
        Due.is("exit code of javac on README.md's program", compiled, 0);
        int ended = new ProcessBuilder(Path.of(System.getProperty("java.home"), "bin", "java").toString(),
                "-cp", folder.toString(), "Try").redirectOutput(printed.toFile())
                .redirectError(ProcessBuilder.Redirect.INHERIT).start().waitFor();
        Due.is("exit code of README.md's program", ended, 0);
        List<String> lines = Files.readAllLines(printed);
        clear(folder);
        return lines;
    }

    private static void clear(Path folder) throws IOException {
        try (var files = Files.list(folder)) {
            for (Path file : files.toList()) {
                Files.delete(file);
            }
        }
        Files.delete(folder);
    }

    private static void everyCallIsNamed(String readme) {
        Set<String> names = new TreeSet<>();
        for (var method : SerialLink.class.getDeclaredMethods()) {
            if (java.lang.reflect.Modifier.isPublic(method.getModifiers())) {
                names.add(method.getName());
            }
        }
        Due.is("methods of the face", names.size(), 20);
        for (String name : names) {
            Due.is("README.md names " + name, readme.contains("`" + name + "`"), true);
        }
    }

    /** Files of this project alone: what stands under ../shared/tests comes and goes without it. */
    private static void everyFileIsThere(List<String> readme) {
        int files = 0;
        for (String line : readme) {
            for (String word : line.startsWith("    ") ? line.trim().split(" +") : new String[0]) {
                if (word.startsWith("src/") || word.startsWith(".ci/")) {
                    files++;
                    String path = word.replace("*.java", "Due.java");
                    Due.is("README.md's file " + word + " is there", Files.exists(Path.of(path)), true);
                }
            }
        }
        Due.is("README.md's commands name files", files > 3, true);
    }
}
