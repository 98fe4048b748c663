import java.io.IOException;
import java.lang.reflect.Field;
import java.lang.reflect.Method;
import java.lang.reflect.Modifier;
import java.nio.file.Files;
import java.nio.file.Path;
import java.util.List;
import java.util.regex.Matcher;
import java.util.regex.Pattern;
import java.util.stream.Stream;

/** What README.md shows as a use of the class compiles and answers as README.md says. */
public final class ReadmeTest {
    private static final Pattern PROGRAM = Pattern.compile("public final class (\\w+)");
    private static final Path SOURCE = Path.of("src/main/java/CellLisp.java").toAbsolutePath();

    public static void main(String[] args) throws IOException, InterruptedException, IllegalAccessException {
        Readme readme = new Readme();
        programsPrintAsShown(readme.blocks());
        linesAnswerAsShown(readme.table("fed", "answer", "printed"));
        errorsComeAsShown(readme.table("answer", "what is wrong", "for example"));
        stepsGoAsShown(readme.table("step", "answer", "`count(1)`", "`count(3)`", "`liveCells()`"));
        namesWhatThereIs(readme.text);
        Trial.end();
    }

    private static void programsPrintAsShown(List<Readme.Block> blocks) throws IOException, InterruptedException {
        int programs = 0;
        for (int i = 0; i < blocks.size(); i++) {
            if (blocks.get(i).language().equals("java")) {
                boolean shown = i + 1 < blocks.size() && blocks.get(i + 1).language().equals("text");
                Trial.due("what the program prints is shown behind it", shown, true);
                programPrints(blocks.get(i).content(), shown ? blocks.get(i + 1).content() : "");
                programs++;
            }
        }
        Trial.due("README.md shows a program", programs > 0, true);
    }

    private static void programPrints(String program, String want) throws IOException, InterruptedException {
        Matcher name = PROGRAM.matcher(program);
        Trial.due("it is a whole program: " + program, name.find(), true);
        Path folder = Files.createTempDirectory("readme");
        String file = name.group(1) + ".java";
        Files.writeString(folder.resolve(file), program);
        Shell.Result compiled = Shell.run(
                folder, "javac", "-Xlint:all", "-Werror", "-d", ".", SOURCE.toString(), file);
        Trial.due("compiling " + file + " of README.md: " + compiled.printed(), compiled.code(), 0);
        Shell.Result done = Shell.run(folder, "java", "-cp", ".", name.group(1));
        Trial.due("the exit code of " + file, done.code(), 0);
        Trial.due("what " + file + " prints", done.printed(), want);
        Shell.remove(folder);
    }

    private static void linesAnswerAsShown(List<String[]> rows) throws IllegalAccessException {
        Trial trial = new Trial(200);
        for (String[] row : rows) {
            String line = Readme.plain(row[0]);
            trial.feed(line + "\n");
            int answer = trial.lisp.run(1000);
            Trial.due(line + " of README.md", nameOf(answer), Readme.plain(row[1]));
            String printed = row[2].isEmpty() ? "" : Readme.plain(row[2]) + "\n";
            Trial.due("what " + line + " of README.md prints", trial.taken(), printed);
        }
    }

    private static void errorsComeAsShown(List<String[]> rows) throws IllegalAccessException {
        int errors = 0;
        for (String[] row : rows) {
            Trial trial = new Trial(200).feed(Readme.plain(row[2]) + "\n");
            int answer = CellLisp.DONE;
            for (int i = 0; i < 10 && answer == CellLisp.DONE; i++) {
                answer = trial.runToEnd();
            }
            Trial.due(row[2] + " of README.md", nameOf(answer), Readme.plain(row[0]));
            Trial.due("no form is behind " + row[2], trial.lisp.run(1), CellLisp.NONE);
            Trial.due("no character but blanks is behind " + row[2], trial.lisp.count(0) <= 1, true);
            errors++;
        }
        Trial.due("errors that README.md shows", errors, -CellLisp.SYMBOLS);
    }

    private static void stepsGoAsShown(List<String[]> rows) throws IllegalAccessException {
        Trial trial = new Trial(200).feed("(+ 1 2)\n");
        for (String[] row : rows) {
            Trial.due("run(1): " + row[0], nameOf(trial.lisp.run(1)), Readme.plain(row[1]));
            Trial.due("count(1): " + row[0], Integer.toString(trial.lisp.count(1)), row[2]);
            Trial.due("count(3): " + row[0], Integer.toString(trial.lisp.count(3)), row[3]);
            Trial.due("liveCells(): " + row[0], Integer.toString(trial.lisp.liveCells()), row[4]);
        }
        Trial.due("the last step", trial.taken(), "3\n");
    }

    private static String nameOf(int answer) throws IllegalAccessException {
        for (Field field : CellLisp.class.getFields()) {
            if (field.getInt(null) == answer) {
                return field.getName();
            }
        }
        return Integer.toString(answer);
    }

    /** All of the face, of the classes inside and of the tests. */
    private static void namesWhatThereIs(String readme) throws IOException {
        for (Field field : CellLisp.class.getFields()) {
            isNamed(readme, "`" + field.getName() + "`");
        }
        for (Method method : CellLisp.class.getDeclaredMethods()) {
            if (Modifier.isPublic(method.getModifiers())) {
                isNamed(readme, "| `" + method.getName() + "(");
            }
        }
        for (Class<?> inside : CellLisp.class.getDeclaredClasses()) {
            isNamed(readme, "`" + inside.getSimpleName() + "`");
        }
        try (Stream<Path> tests = Files.list(Path.of("src/test/java"))) {
            tests.map(path -> path.getFileName().toString())
                    .filter(name -> name.endsWith("Test.java"))
                    .forEach(name -> isNamed(readme, "`" + name.replace(".java", "") + "`"));
        }
    }

    private static void isNamed(String readme, String name) {
        Trial.due("README.md names " + name, readme.contains(name), true);
    }
}
