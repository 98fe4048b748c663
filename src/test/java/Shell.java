import java.io.IOException;
import java.io.UncheckedIOException;
import java.nio.charset.StandardCharsets;
import java.nio.file.FileVisitOption;
import java.nio.file.Files;
import java.nio.file.Path;
import java.util.Comparator;
import java.util.stream.Stream;

/** Commands, and folders of their own to run them in. */
final class Shell {
    /** What a command printed, and its exit code. */
    record Result(int code, String printed) {
    }

    private Shell() {
    }

    static Result run(Path folder, String... command) throws IOException, InterruptedException {
        Process process = new ProcessBuilder(command).directory(folder.toFile()).redirectErrorStream(true).start();
        process.getOutputStream().close();
        String printed = new String(process.getInputStream().readAllBytes(), StandardCharsets.UTF_8);
        return new Result(process.waitFor(), printed);
    }

    /** Only the contents, as the originals may be read-only, or links to what lies elsewhere. */
    static void copyContents(Path from, Path to) throws IOException {
        try (Stream<Path> all = Files.walk(from, FileVisitOption.FOLLOW_LINKS)) {
            for (Path path : all.toList()) {
                Path copy = to.resolve(from.relativize(path).toString());
                if (Files.isDirectory(path)) {
                    Files.createDirectories(copy);
                } else {
                    Files.write(copy, Files.readAllBytes(path));
                }
            }
        }
    }

    static void remove(Path folder) throws IOException {
        try (Stream<Path> all = Files.walk(folder)) {
            all.sorted(Comparator.reverseOrder()).forEach(Shell::removeOne);
        }
    }

    private static void removeOne(Path path) {
        try {
            Files.delete(path);
        } catch (IOException unable) {
            throw new UncheckedIOException(unable);
        }
    }
}
