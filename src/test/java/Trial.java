/** One object under test, fed with plain texts, and the count of the answers that are not as due. */
final class Trial {
    private static int asked = 0;
    private static int wrong = 0;

    final CellLisp lisp;

    Trial(int size) {
        lisp = new CellLisp(size);
    }

    /** Feeds the text in pieces of four characters; every piece must be taken. */
    Trial feed(String text) {
        for (int at = 0; at < text.length(); at += 4) {
            String piece = text.substring(at, Math.min(text.length(), at + 4));
            due("feed of " + piece, lisp.feed(word(piece), piece.length()), true);
        }
        return this;
    }

    /** The characters as the bytes of one word, the first one highest. */
    static int word(String piece) {
        int word = 0;
        for (int i = 0; i < piece.length(); i++) {
            word = word << 8 | piece.charAt(i);
        }
        return word;
    }

    /** Runs until the form has ended, however long that takes. */
    int runToEnd() {
        int answer = CellLisp.MORE;
        for (int i = 0; i < 1000 && answer == CellLisp.MORE; i++) {
            answer = lisp.run(1000);
        }
        return answer;
    }

    /** Takes what waits. */
    String taken() {
        StringBuilder taken = new StringBuilder();
        for (int i = 0; i < lisp.outSize(); i++) {
            taken.append((char) lisp.out(i));
        }
        lisp.clearOut();
        return taken.toString();
    }

    /** What the text's one form prints, or the number of its error. */
    String result(String text) {
        feed(text);
        int answer = runToEnd();
        String taken = taken();
        if (answer != CellLisp.DONE) {
            due("nothing is printed by " + text, taken, "");
            return Integer.toString(answer);
        }
        due("the end of the line of " + text, taken.endsWith("\n"), true);
        return taken.isEmpty() ? "" : taken.substring(0, taken.length() - 1);
    }

    Trial gives(String text, String want) {
        due(text, result(text), want);
        return this;
    }

    Trial fails(String text, int error) {
        due(text, result(text), Integer.toString(error));
        due("frames after " + text, lisp.count(1), 0);
        return this;
    }

    static void due(String call, Object got, Object want) {
        asked++;
        if (!got.equals(want)) {
            wrong++;
            System.out.println(call + " answered " + got + ", due is " + want);
        }
    }

    static void end() {
        System.out.println(asked + " answers, " + wrong + " not as due");
        if (wrong != 0) {
            System.exit(1);
        }
    }
}
