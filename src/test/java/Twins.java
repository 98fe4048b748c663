/**
 * Two objects with the same past. One of them gets a call more that must change nothing: then all that can
 * be asked stays the same, now and at every step to come.
 */
final class Twins {
    /** A call and its answer, where a boolean counts 1 or 0. */
    interface Call {
        int on(CellLisp lisp);
    }

    private static final int MOST_STEPS = 25;

    private final CellLisp one;
    private final CellLisp other;
    private final String past;

    /** Feeds the text and does so many steps. */
    Twins(int size, String text, int steps) {
        past = "size " + size + ", text \"" + text + "\", " + steps + " steps";
        one = past(size, text, steps);
        other = past(size, text, steps);
    }

    private static CellLisp past(int size, String text, int steps) {
        Trial trial = new Trial(size).feed(text);
        for (int i = 0; i < steps; i++) {
            trial.lisp.run(1);
        }
        return trial.lisp;
    }

    /** Pasts that differ in what waits, what is under way, and how the last form ended. */
    static Twins[] ofManyPasts() {
        return new Twins[] {
            new Twins(100, "", 0),
            new Twins(20, " \n", 0),
            new Twins(100, "(car x", 0),
            new Twins(100, "'(1 2) abc", 3),
            new Twins(40, "((lambda (x) (list x 'b)) '(1 2)) 7 ", 9),
            new Twins(60, "(define a '(1 (2))) (car 5) '(3", 9),
            new Twins(60, "(define a 1) ) ", 6),
        };
    }

    /** The call has this answer and leaves the object as it was. */
    static void changesNothing(String name, int answer, Call call) {
        for (Twins twins : ofManyPasts()) {
            twins.stayTheSame(name, answer, call);
        }
    }

    void stayTheSame(String name, int answer, Call call) {
        Trial.due(name + " with " + past, call.on(one), answer);
        areTheSame(name);
        goOn(name);
        // Ends a list or word that has begun, so that it comes to light what the text holds.
        Trial.due("feed", one.feed(Trial.word(") 8 "), 4), other.feed(Trial.word(") 8 "), 4));
        goOn(name);
        goOn(name);
        printTheSame(name);
    }

    private void goOn(String name) {
        int answer = CellLisp.MORE;
        for (int i = 0; i < MOST_STEPS && answer != CellLisp.NONE; i++) {
            answer = other.run(1);
            Trial.due("run after " + name + " with " + past, one.run(1), answer);
            areTheSame(name);
        }
    }

    private void areTheSame(String name) {
        String after = " after " + name + " with " + past;
        for (int what = 0; what < 4; what++) {
            Trial.due("count(" + what + ")" + after, one.count(what), other.count(what));
        }
        Trial.due("liveCells" + after, one.liveCells(), other.liveCells());
        Trial.due("outSize" + after, one.outSize(), other.outSize());
    }

    private void printTheSame(String name) {
        for (int i = 0; i <= other.outSize(); i++) {
            Trial.due("out(" + i + ") after " + name + " with " + past, one.out(i), other.out(i));
        }
    }
}
