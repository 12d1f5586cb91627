import java.io.File;
import java.io.IOException;
import java.lang.reflect.Method;
import java.lang.reflect.Modifier;
import java.nio.charset.StandardCharsets;
import java.nio.file.Files;
import java.nio.file.Path;

/** README.md: its example, put beside the class as it says, answers what it says. */
public final class ReadmeTest {
    private static final Path CLASS = Path.of("src/main/java/OpenShop.java");
    private static final Path README = Path.of("README.md");
    private static final Path TESTS = Path.of("src/test/java");

    public static void main(String[] args) throws Exception {
        String text = Files.readString(README);
        exampleAnswersWhatIsWritten(text);
        namesAllCalls(text);
        namesAllTests(text);
        Check.end("ReadmeTest");
    }

    private static void exampleAnswersWhatIsWritten(String text) throws Exception {
        Path folder = Files.createTempDirectory("readme");
        try {
            Path example = folder.resolve("Example.java");
            Files.writeString(example, block(text, "java"));
            run("javac", "-d", folder.toString(), CLASS.toString(), example.toString());
            String got = run("java", "-cp", folder.toString(), "Example");
            String due = block(text, "text");
            Check.holds("the example says\n" + got + "where this is written\n" + due,
                    !due.isEmpty() && got.equals(due));
        } finally {
            delete(folder);
        }
    }

    /** What stands between the first line of three ticks and this kind, and the next three ticks. */
    private static String block(String text, String kind) {
        String opening = "```" + kind + "\n";
        int start = text.indexOf(opening);
        int end = start < 0 ? -1 : text.indexOf("```", start + opening.length());
        return end < 0 ? "" : text.substring(start + opening.length(), end);
    }

    private static String run(String... command) throws IOException, InterruptedException {
        Process process = new ProcessBuilder(command)
                .redirectError(ProcessBuilder.Redirect.INHERIT).start();
        String said = new String(process.getInputStream().readAllBytes(), StandardCharsets.UTF_8);
        Check.same("the exit code of " + String.join(" ", command), process.waitFor(), 0);
        return said;
    }

    private static void delete(Path folder) throws IOException {
        for (File file : filesIn(folder)) {
            Files.delete(file.toPath());
        }
        Files.delete(folder);
    }

    private static File[] filesIn(Path folder) {
        File[] files = folder.toFile().listFiles();
        return files == null ? new File[0] : files;
    }

    private static void namesAllCalls(String text) {
        for (Method method : OpenShop.class.getDeclaredMethods()) {
            if (Modifier.isPublic(method.getModifiers())) {
                Check.holds("README.md names " + method.getName(),
                        text.contains("`" + method.getName() + "`"));
            }
        }
    }

    private static void namesAllTests(String text) {
        for (File file : filesIn(TESTS)) {
            String name = file.getName().replace(".java", "");
            Check.holds("README.md names " + name,
                    !name.endsWith("Test") || text.contains("| `" + name + "` |"));
        }
    }
}
