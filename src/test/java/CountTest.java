/** Promise 8: count. */
public final class CountTest {
    public static void main(String[] args) {
        countsCharacters();
        countsFrames();
        countsSymbols();
        countsSteps();
        refusesOthers();
        Trial.end();
    }

    private static void countsCharacters() {
        Trial trial = new Trial(100);
        Trial.due("none", trial.lisp.count(0), 0);
        trial.feed(" 12 (a");
        Trial.due("six", trial.lisp.count(0), 6);
        Trial.due("run", trial.lisp.run(1), CellLisp.MORE);
        Trial.due("left", trial.lisp.count(0), 3);
        Trial.due("run", trial.lisp.run(9), CellLisp.DONE);
        Trial.due("run", trial.lisp.run(9), CellLisp.NONE);
        Trial.due("left", trial.lisp.count(0), 3);
    }

    private static void countsFrames() {
        Trial trial = new Trial(100).feed("(define x (if (list 1) 2)) ");
        // reading; DEFINE; IF; ARGUMENTS; list; kept; 1; applied; 2; RETURN 2; defined; printed
        int[] due = {0, 1, 2, 3, 3, 3, 3, 2, 1, 1, 0, 0};
        for (int i = 0; i < due.length; i++) {
            int answer = trial.lisp.run(1);
            Trial.due("run", answer, i < due.length - 1 ? CellLisp.MORE : CellLisp.DONE);
            Trial.due("frames after step " + (i + 1), trial.lisp.count(1), due[i]);
        }
        trial.feed("(if (list (car 1)) 2) ");
        Trial.due("run", trial.lisp.run(4), CellLisp.MORE);
        Trial.due("frames", trial.lisp.count(1), 2);
        Trial.due("run", trial.lisp.run(99), CellLisp.TYPE);
        Trial.due("frames", trial.lisp.count(1), 0);
    }

    private static void countsSymbols() {
        Trial trial = new Trial(100);
        Trial.due("at first", trial.lisp.count(2), 16);
        trial.gives("'(+ - * < eq? atom? cons car cdr list) ", "(+ - * < eq? atom? cons car cdr list)");
        trial.gives("'(quote if lambda define set! t nil 5 ()) ", "(quote if lambda define set! t () 5 ())");
        Trial.due("the same", trial.lisp.count(2), 16);
        trial.feed("(define new old");
        Trial.due("run", trial.lisp.run(9), CellLisp.NONE);
        Trial.due("not complete", trial.lisp.count(2), 16);
        trial.fails(") ", CellLisp.UNBOUND);
        Trial.due("two more", trial.lisp.count(2), 18);
    }

    private static void countsSteps() {
        Trial trial = new Trial(100).feed("5 (+ 1 2) ) undef (car) ");
        Trial.due("run", trial.lisp.run(1), CellLisp.MORE);
        Trial.due("reading", trial.lisp.count(3), 1);
        Trial.due("run", trial.lisp.run(1), CellLisp.MORE);
        Trial.due("EVAL", trial.lisp.count(3), 2);
        Trial.due("run", trial.lisp.run(100), CellLisp.DONE);
        Trial.due("RETURN", trial.lisp.count(3), 3);
        Trial.due("run", trial.lisp.run(100), CellLisp.DONE);
        Trial.due("of another form", trial.lisp.count(3), 9);
        Trial.due("run", trial.lisp.run(100), CellLisp.SYNTAX);
        Trial.due("of a fault", trial.lisp.count(3), 1);
        Trial.due("run", trial.lisp.run(100), CellLisp.UNBOUND);
        Trial.due("with the step that failed", trial.lisp.count(3), 2);
        Trial.due("run", trial.lisp.run(100), CellLisp.COUNT);
        Trial.due("with the step that failed", trial.lisp.count(3), 4);
        Trial.due("run", trial.lisp.run(100), CellLisp.NONE);
        Trial.due("nothing is done", trial.lisp.count(3), 4);
    }

    private static void refusesOthers() {
        Trial trial = new Trial(100).feed("(+ 1 ");
        int[] others = {-1, 4, 5, 100, Integer.MIN_VALUE, Integer.MAX_VALUE};
        for (int what : others) {
            Trial.due("count of " + what, trial.lisp.count(what), -1);
        }
    }
}
