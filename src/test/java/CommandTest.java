import java.io.IOException;
import java.nio.file.Files;
import java.nio.file.Path;
import java.util.List;
import java.util.stream.Stream;

/**
 * The tests run by the command that README.md names, and it fails if one fails. It is run in copies of the
 * project, which leave this test out, as it would come to itself again.
 */
public final class CommandTest {
    private static final String CLASS = "project/src/main/java/CellLisp.java";
    private static final String TESTS = "project/src/test/java/";
    private static final String SHARED_TESTS = "shared/tests/";

    /** A copy of the project in a folder of its own, with a copy of ../shared beside it. */
    private final Path folder;
    private final String command;

    private CommandTest(String command) throws IOException {
        this.command = command;
        folder = Files.createTempDirectory("command");
        Shell.copyContents(Path.of("src"), folder.resolve("project/src"));
        Shell.copyContents(Path.of("../shared"), folder.resolve("shared"));
        Files.copy(Path.of("README.md"), folder.resolve("project/README.md"));
        Files.createDirectory(folder.resolve("project/.ci"));
        // This copy keeps what it may do: that the script can be run is a part of what is tested.
        Files.copy(Path.of(".ci/run"), folder.resolve("project/.ci/run"));
        Files.delete(folder.resolve(TESTS + "CommandTest.java"));
    }

    public static void main(String[] args) throws IOException, InterruptedException {
        String command = new Readme().command();
        everyTestRuns(command);
        few(command).passes("nothing is changed");
        failsWithABrokenProject(command);
        failsWithoutItsSharedTests(command);
        Trial.end();
    }

    private static void everyTestRuns(String command) throws IOException, InterruptedException {
        CommandTest copy = new CommandTest(command);
        List<Path> own = copy.files(TESTS);
        List<Path> shared = copy.files(SHARED_TESTS);
        String printed = copy.passes("the whole project is tested");
        Trial.due("tests of the project are there", own.size() > 1, true);
        Trial.due("tests under ../shared/tests are there", shared.isEmpty(), false);
        for (Path test : own) {
            String name = test.getFileName().toString().replace(".java", "");
            if (name.endsWith("Test")) {
                Trial.due(name + " is run by " + command, printed.contains("ok      " + name + "\n"), true);
            }
        }
        for (Path test : shared) {
            String name = test.getFileName().toString().replace(".java", "");
            Trial.due(name + " is run by " + command, printed.contains("ok      shared/tests/" + name + "\n"), true);
        }
    }

    /** A copy with one quick test of the project alone. */
    private static CommandTest few(String command) throws IOException {
        CommandTest copy = new CommandTest(command);
        for (Path path : copy.files(TESTS)) {
            String name = path.getFileName().toString();
            if (!name.equals("Trial.java") && !name.equals("FeedTest.java")) {
                Files.delete(path);
            }
        }
        return copy;
    }

    private static void failsWithABrokenProject(String command) throws IOException, InterruptedException {
        few(command).change(CLASS, "LIMIT = 120", "LIMIT = 119").fails("the class breaks a promise");
        few(command).write(CLASS, "no class").fails("the class does not compile");
        few(command).write(TESTS + "BadTest.java", failing("BadTest")).fails("a test of the project fails");
        few(command).write(TESTS + "BadTest.java", "no test").fails("a test of the project does not compile");
    }

    private static void failsWithoutItsSharedTests(String command) throws IOException, InterruptedException {
        few(command).write(SHARED_TESTS + "Bad.java", failing("Bad")).fails("a shared test fails");
        few(command).write(SHARED_TESTS + "Bad.java", "no test").fails("a shared test does not compile");
        CommandTest without = few(command);
        for (Path path : without.files(SHARED_TESTS)) {
            Files.delete(path);
        }
        without.fails("no shared test is there");
    }

    private static String failing(String name) {
        return "public final class " + name + " {\n    public static void main(String[] args) {\n"
                + "        System.exit(1);\n    }\n}\n";
    }

    private List<Path> files(String name) throws IOException {
        try (Stream<Path> files = Files.list(folder.resolve(name))) {
            return files.filter(path -> path.toString().endsWith(".java")).toList();
        }
    }

    private CommandTest write(String name, String content) throws IOException {
        Files.writeString(folder.resolve(name), content);
        return this;
    }

    private CommandTest change(String name, String from, String to) throws IOException {
        String before = Files.readString(folder.resolve(name));
        Trial.due(name + " has " + from, before.contains(from), true);
        return write(name, before.replace(from, to));
    }

    private String passes(String when) throws IOException, InterruptedException {
        Shell.Result result = runAndRemove();
        Trial.due(command + " when " + when + "\n" + result.printed(), result.code(), 0);
        return result.printed();
    }

    private void fails(String when) throws IOException, InterruptedException {
        Shell.Result result = runAndRemove();
        Trial.due(command + " fails when " + when + "\n" + result.printed(), result.code() != 0, true);
    }

    private Shell.Result runAndRemove() throws IOException, InterruptedException {
        Shell.Result result = Shell.run(folder.resolve("project"), "sh", "-c", command);
        Shell.remove(folder);
        return result;
    }
}
