import java.io.File;
import java.io.IOException;
import java.lang.reflect.Method;
import java.lang.reflect.Modifier;
import java.nio.file.Files;
import java.nio.file.Path;
import java.util.ArrayList;
import java.util.List;

/** README.md, followed word for word in a folder that holds only what a clean checkout does. */
public final class ReadmeTest {
    private static final Path README = Path.of("README.md");
    private static final String SOURCE = "src/main/java";
    private static final String TESTS = "src/test/java";

    public static void main(String[] args) throws IOException, InterruptedException {
        String page = Files.readString(README);
        Path folder = Files.createTempDirectory("readme");
        try {
            copyFiles(SOURCE, folder);
            copyFiles(TESTS, folder);
            program(page, folder);
            testByHand(page, folder);
        } finally {
            remove(folder.toFile());
        }
        everyTestIsNamed(page);
        everyCallIsNamed(page);
        Checks.end("ReadmeTest");
    }

    /** The text of a fenced block of the given kind. */
    private static List<String> blocks(String page, String kind) {
        List<String> found = new ArrayList<>();
        String start = "```" + kind + "\n";
        int at = page.indexOf(start);
        while (at >= 0) {
            int from = at + start.length();
            int to = page.indexOf("```", from);
            found.add(page.substring(from, to));
            at = page.indexOf(start, to);
        }
        return found;
    }

    private static void program(String page, Path folder) throws IOException, InterruptedException {
        Files.writeString(folder.resolve("Yours.java"), blocks(page, "java").get(0));
        Checks.due("what the program prints", printed(blocks(page, "sh").get(0), folder), blocks(page, "text").get(0));
    }

    private static void testByHand(String page, Path folder) throws IOException, InterruptedException {
        List<String> commands = blocks(page, "sh");
        Checks.due("how all tests are run", commands.get(1), ".ci/run\n");
        String answer = printed(commands.get(2), folder);
        Checks.due("a test by hand: " + answer, answer.contains("answers are as due"), true);
    }

    /** What the commands print, and behind it how they end, if that is not with 0. */
    private static String printed(String commands, Path folder) throws IOException, InterruptedException {
        Path output = folder.resolve("output");
        Process process = new ProcessBuilder("sh", "-e", "-c", commands).directory(folder.toFile())
                .redirectErrorStream(true).redirectOutput(output.toFile()).start();
        int end = process.waitFor();
        return Files.readString(output) + (end == 0 ? "" : "ended with " + end);
    }

    private static void everyTestIsNamed(String page) {
        for (File file : filesOf(TESTS)) {
            String name = file.getName().replace(".java", "");
            String row = name.endsWith("Test") ? "| " + name + " |" : "`" + name + "`";
            Checks.due("README.md names " + name, page.contains(row), true);
        }
    }

    private static void everyCallIsNamed(String page) {
        for (Method method : Cyclepaint.class.getDeclaredMethods()) {
            if (Modifier.isPublic(method.getModifiers())) {
                String name = "`" + method.getName() + "`";
                Checks.due("README.md names " + name, page.contains(name), true);
            }
        }
    }

    private static File[] filesOf(String source) {
        File[] files = new File(source).listFiles((folder, name) -> name.endsWith(".java"));
        return files == null ? new File[0] : files;
    }

    private static void copyFiles(String source, Path folder) throws IOException {
        Path copy = Files.createDirectories(folder.resolve(source));
        for (File file : filesOf(source)) {
            Files.copy(file.toPath(), copy.resolve(file.getName()));
        }
    }

    private static void remove(File file) {
        File[] inside = file.listFiles();
        if (inside != null) {
            for (File one : inside) {
                remove(one);
            }
        }
        file.delete();
    }
}
