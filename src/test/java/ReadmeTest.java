import java.io.IOException;
import java.nio.charset.StandardCharsets;
import java.nio.file.Files;
import java.nio.file.Path;
import java.util.stream.Stream;

/** README.md: its example, compiled and run by the commands that stand there, answers what stands there. */
final class ReadmeTest {
    private static final Path SOURCE = Path.of("src/main/java/PinBarrel.java");

    public static void main(String[] args) throws IOException, InterruptedException {
        String page = Files.readString(Path.of("README.md"));
        exampleAnswersAsTold(page);
        eachTestIsListed(page);
        Check.end();
    }

    private static void exampleAnswersAsTold(String page) throws IOException, InterruptedException {
        Path room = Files.createTempDirectory("readme");
        try {
            Files.createDirectories(room.resolve(SOURCE).getParent());
            Files.copy(SOURCE, room.resolve(SOURCE));
            Files.writeString(room.resolve("Example.java"), block(page, "java"));
            StringBuilder answered = new StringBuilder();
            for (String command : block(page, "sh").split("\n")) {
                answered.append(outputOf(command, room));
            }
            Check.same("the example of README.md", answered.toString(), block(page, "text"));
        } finally {
            remove(room);
        }
    }

    /** What stands between the first fence of a kind and the next fence. */
    private static String block(String page, String kind) {
        String fence = "```" + kind + "\n";
        int from = page.indexOf(fence);
        int to = from < 0 ? -1 : page.indexOf("```", from + fence.length());
        if (to < 0) {
            Check.fault("README.md has no block of " + kind);
            return "";
        }
        return page.substring(from + fence.length(), to);
    }

    private static String outputOf(String command, Path room) throws IOException, InterruptedException {
        Process made = new ProcessBuilder(command.split(" ")).directory(room.toFile())
                .redirectError(ProcessBuilder.Redirect.INHERIT).start();
        String output = new String(made.getInputStream().readAllBytes(), StandardCharsets.UTF_8);
        Check.same("exit code of " + command, made.waitFor(), 0);
        return output;
    }

    private static void remove(Path room) throws IOException {
        Path[] inside;
        try (Stream<Path> all = Files.walk(room)) {
            inside = all.toArray(Path[]::new);
        }
        for (int i = inside.length - 1; i >= 0; i--) {
            Files.delete(inside[i]);
        }
    }

    private static void eachTestIsListed(String page) throws IOException {
        try (Stream<Path> all = Files.list(Path.of("src/test/java"))) {
            all.map(file -> file.getFileName().toString().replace(".java", ""))
                    .filter(name -> name.endsWith("Test") && !page.contains("| `" + name + "` |"))
                    .forEach(name -> Check.fault("README.md does not list " + name));
        }
    }
}
