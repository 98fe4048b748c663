/** Promise 7: liveCells, and which cells are in use after each step. */
public final class LiveCellsTest {
    public static void main(String[] args) {
        // reading; frame; + found; + kept; 1; 1 kept; 2; 3 made; printed
        traces("(+ 1 2) ", 6, 4, 4, 4, 4, 4, 4, 0, 0);
        // reading; frame; closure; closure kept; 5; applied; x found; printed
        traces("((lambda (x) x) 5) ", 12, 10, 7, 7, 7, 4, 4, 0);
        // reading; frame IF and x; RETURN; second branch; RETURN; printed
        traces("(if () 1 '(2)) ", 14, 10, 10, 6, 2, 0);
        // reading; frame DEFINE and '(1 2); RETURN; defined; printed
        traces("(define a '(1 2)) ", 14, 8, 4, 4, 4);
        // reading; frame SET; frame ARGUMENTS; list found; list kept; 1; applied; set; printed
        traces("(set! t (list 1)) ", 10, 4, 2, 2, 2, 2, 2, 2, 2);
        // reading; frame; cons; kept; 1; kept; 2; made; printed
        traces("(cons 1 2) ", 6, 4, 4, 4, 4, 4, 4, 2, 0);
        // The environment stays while a value goes back, and is B again behind it:
        // reading; frame; closure; kept, inner call; frame; closure; kept; 5; applied; y; kept and applied; ..
        traces("((lambda (x) 1) ((lambda (y) y) 5)) ",
                24, 22, 19, 19, 17, 14, 14, 14, 11, 11, 4, 4, 0);
        // An IF without a second branch returns NIL, and the environment of its test stays.
        traces("(if ((lambda (x) nil) 5) 1) ", 18, 14, 12, 9, 9, 9, 6, 6, 4, 0);
        // A frame DEFINE does not hold the environment, so it is gone while k's body is evaluated.
        goesOn(new Trial(100).gives("(define k (lambda () 5)) ", "k"), "((lambda (x) (define a (k))) '(1 2)) ",
                31, 29, 26, 26, 22, 19, 13, 11, 11, 3, 3, 3, 3);
        countsWhatIsDefined();
        countsSharedCellsOnce();
        countsRoundWays();
        staysTheSameByAsking();
        Trial.end();
    }

    private static void traces(String text, int... cells) {
        goesOn(new Trial(100), text, cells);
    }

    private static void goesOn(Trial trial, String text, int... cells) {
        trial.feed(text);
        for (int i = 0; i < cells.length; i++) {
            boolean last = i == cells.length - 1;
            Trial.due("step of " + text, trial.lisp.run(1), last ? CellLisp.DONE : CellLisp.MORE);
            Trial.due("cells after step " + (i + 1) + " of " + text, trial.lisp.liveCells(), cells[i]);
        }
    }

    private static void countsWhatIsDefined() {
        Trial trial = new Trial(100);
        define(trial, "(define f (lambda (x) x)) ", 5);
        define(trial, "(define f (lambda () 1)) ", 3);
        define(trial, "(define f (lambda (x y) (+ x y))) ", 13);
        define(trial, "(define g f) ", 13);
        define(trial, "(define f 1) ", 13);
        define(trial, "(define g 1) ", 0);
        define(trial, "(define h ((lambda (x) (lambda () x)) 5)) ", 7);
        define(trial, "(define h '(1 (2) . 3)) ", 10);
        define(trial, "(define h (cons 1 2)) ", 2);
        define(trial, "(define t h) ", 2);
        define(trial, "(set! h ()) ", 2);
        define(trial, "(set! t ()) ", 0);
        trial.fails("(list '(1 2) (car 5)) ", CellLisp.TYPE);
        Trial.due("cells after an error", trial.lisp.liveCells(), 0);
    }

    private static void define(Trial trial, String text, int cells) {
        trial.feed(text);
        Trial.due("end of " + text, trial.runToEnd(), CellLisp.DONE);
        trial.lisp.clearOut();
        Trial.due("cells after " + text, trial.lisp.liveCells(), cells);
    }

    private static void countsSharedCellsOnce() {
        Trial trial = new Trial(60);
        define(trial, "(define a '(1)) ", 2);
        for (int i = 2; i <= 10; i++) {
            define(trial, "(define a (cons a a)) ", 2 * i);
        }
        define(trial, "(define b (cdr a)) ", 20);
        define(trial, "(define a ()) ", 18);
    }

    /** A closure that its own environment binds. */
    private static void countsRoundWays() {
        Trial trial = new Trial(60);
        for (int i = 0; i < 30; i++) {
            define(trial, "(define a ((lambda (f) (set! f (lambda () f))) 1)) ", 7);
        }
        define(trial, "(define a 1) ", 0);
    }

    private static void staysTheSameByAsking() {
        Trial asked = new Trial(40).feed("((lambda (x) (list x x (cons x '(4)))) (list 1 2)) ");
        Trial other = new Trial(40).feed("((lambda (x) (list x x (cons x '(4)))) (list 1 2)) ");
        int answer = CellLisp.MORE;
        for (int i = 0; i < 100 && answer == CellLisp.MORE; i++) {
            int cells = asked.lisp.liveCells();
            Trial.due("the same again", asked.lisp.liveCells(), cells);
            answer = asked.lisp.run(1);
            Trial.due("the same answer", other.lisp.run(1), answer);
        }
        Trial.due("the same text", asked.taken(), other.taken());
    }
}
