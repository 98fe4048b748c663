import java.io.IOException;
import java.nio.file.Files;
import java.nio.file.Path;

/** One object under test, fed with plain texts, and the count of the answers that are not as due. */
final class Trial {
    private static final String DOCUMENT = document();
    private static int asked = 0;
    private static int wrong = 0;
    private static int sentences = 0;
    private static String about = "";

    /** A call that does not end is to fail the test, not to hold it up; no slow machine needs so long. */
    private static final long MOST_SECONDS = 600;

    static {
        Thread watch = new Thread(Trial::endLate);
        watch.setDaemon(true);
        watch.start();
    }

    private static void endLate() {
        try {
            Thread.sleep(1000 * MOST_SECONDS);
        } catch (InterruptedException ended) {
            return;
        }
        System.out.println(about + "a call has not ended");
        Runtime.getRuntime().halt(1);
    }

    final CellLisp lisp;

    Trial(int size) {
        lisp = new CellLisp(size);
    }

    /** Feeds the text in pieces of four characters; every piece must be taken. */
    Trial feed(String text) {
        for (int at = 0; at < text.length(); at += 4) {
            String piece = text.substring(at, Math.min(text.length(), at + 4));
            due("feed of " + piece, lisp.feed(word(piece), piece.length()), true);
        }
        return this;
    }

    /** An object of which so many characters wait to be taken: numbers and 10s, which are never 1 alone. */
    static Trial withWaiting(int characters) {
        Trial trial = new Trial(400);
        int left = characters;
        while (left > 0) {
            int digits = left > 11 ? 9 : left == 11 ? 4 : left - 1;
            trial.feed("123456789".substring(0, digits) + " ");
            due("run", trial.lisp.run(3), CellLisp.DONE);
            left -= digits + 1;
        }
        return trial;
    }

    /** The characters as the bytes of one word, the first one highest. */
    static int word(String piece) {
        int word = 0;
        for (int i = 0; i < piece.length(); i++) {
            word = word << 8 | piece.charAt(i);
        }
        return word;
    }

    /** Runs until the form has ended, however long that takes. */
    int runToEnd() {
        int answer = CellLisp.MORE;
        for (int i = 0; i < 1000 && answer == CellLisp.MORE; i++) {
            answer = lisp.run(1000);
        }
        return answer;
    }

    /** Takes what waits. */
    String taken() {
        StringBuilder taken = new StringBuilder();
        int size = lisp.outSize();
        for (int i = 0; i < size; i++) {
            taken.append((char) lisp.out(i));
        }
        lisp.clearOut();
        return taken.toString();
    }

    /** What the text's one form prints, or the number of its error. */
    String result(String text) {
        feed(text);
        int answer = runToEnd();
        String taken = taken();
        if (answer != CellLisp.DONE) {
            due("nothing is printed by " + text, taken, "");
            return Integer.toString(answer);
        }
        due("the end of the line of " + text, taken.endsWith("\n"), true);
        return taken.isEmpty() ? "" : taken.substring(0, taken.length() - 1);
    }

    Trial gives(String text, String want) {
        due(text, result(text), want);
        return this;
    }

    Trial fails(String text, int error) {
        due(text, result(text), Integer.toString(error));
        due("frames after " + text, lisp.count(1), 0);
        return this;
    }

    /**
     * Names the promise and the sentence of the document that the next answers are due by. The sentence
     * must stand in the document, so that a test does not outlive the words that it is about.
     */
    static void about(String promise, String sentence) {
        about = promise + ", \"" + sentence + "\"\n    ";
        sentences++;
        due("the document has the sentence", DOCUMENT.isEmpty() || DOCUMENT.contains(flat(sentence)), true);
    }

    private static String document() {
        Path path = Path.of(System.getProperty("document", "../shared/DOC.md"));
        try {
            return Files.exists(path) ? flat(Files.readString(path)) : "";
        } catch (IOException unreadable) {
            return "";
        }
    }

    private static String flat(String words) {
        return words.replaceAll("\\s+", " ").trim();
    }

    static void due(String call, Object got, Object want) {
        asked++;
        if (!got.equals(want)) {
            wrong++;
            System.out.println(about + call + " answered " + got + ", due is " + want);
        }
    }

    static void end() {
        String of = sentences == 0 ? "" : " about " + sentences + " sentences";
        System.out.println(asked + " answers" + of + ", " + wrong + " not as due");
        if (wrong != 0) {
            System.exit(1);
        }
    }
}
