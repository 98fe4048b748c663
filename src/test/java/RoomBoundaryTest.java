/** The boundary cases of the room and its cells, which the Terms name and the promises 3 and 7 show. */
public final class RoomBoundaryTest {
    public static void main(String[] args) {
        cellsOfValues();
        cellsInUse();
        cellsInUseWhileAValueGoesBack();
        cellsInUseByFrames();
        cellsInUseByEachGlobal();
        cellsInUseThatAreShared();
        readingAsks();
        readingKnowsItsSymbols();
        lambdaAsks();
        argumentsAsk();
        argumentsAskFirst();
        closuresAsk();
        consAsks();
        listAsks();
        othersAskForNothing();
        roomErrorChangesNothing();
        cellsAreThereAgain();
        Trial.end();
    }

    private static void about(String sentence) {
        Trial.about("Promise 3 (Terms)", sentence);
    }

    // ---- cells in use

    private static void cellsOfValues() {
        Trial.about("Promise 7 (Terms)", "PAIRS (two values, CAR and CDR, 2 cells), CLOSURES (parameters, body, environment: "
                + "3 cells).");
        String[] without = {"0", "268435455", "'x", "()", "nil", "car", "t"};
        for (String value : without) {
            holds("(define a " + value + ")", 0);
        }
        holds("(define a (cons 1 2))", 2);
        holds("(define a '(1))", 2);
        holds("(define a '(1 2))", 4);
        holds("(define a '((1) 2))", 6);
        holds("(define a '(()))", 2);
        holds("(define a '('x))", 6);
        holds("(define a (lambda () 1))", 3);
        holds("(define a (lambda () '(1)))", 9);
        holds("(define a (lambda (x) 1))", 5);
        holds("(define a (lambda (x y z w) 1))", 11);
        holds("(define a ((lambda (x) (lambda () 1)) 2))", 7);
        holds("(define a ((lambda (x y) (lambda () 1)) 2 3))", 11);
        holds("(define a ((lambda () (lambda () 1))))", 3);
    }

    private static void holds(String form, int cells) {
        Trial trial = new Trial(60).gives(form, "a");
        Trial.due("liveCells after " + form, trial.lisp.liveCells(), cells);
    }

    private static final String IN_USE =
            "Cells are IN USE if one comes to them from VALUE, the environment, the frames, and global values.";

    /** The cells in use after each step of the form, of which the last one ends it. */
    private static void traces(String before, String form, int... cells) {
        Trial trial = new Trial(100);
        if (!before.isEmpty()) {
            trial.feed(before);
            Trial.due("end of " + before, trial.runToEnd(), CellLisp.DONE);
        }
        trial.feed(form);
        for (int i = 0; i < cells.length; i++) {
            Trial.due("run of " + form, trial.lisp.run(1), i < cells.length - 1 ? CellLisp.MORE : CellLisp.DONE);
            Trial.due("liveCells after step " + (i + 1) + " of " + form, trial.lisp.liveCells(), cells[i]);
        }
    }

    private static void cellsInUse() {
        Trial.about("Promise 7 (Terms)", IN_USE);
        // VALUE alone: (quote (1 2)), then (1 2).
        traces("", "'(1 2) ", 8, 4, 0);
        // Global values alone.
        traces("(define a '(1 2))", "5 ", 4, 4, 4);
        // A frame's A: of IF the branches, of ARGUMENTS the values to come; of DEFINE and SET it is a symbol.
        traces("", "(if t 1 2) ", 8, 4, 4, 0, 0, 0);
        traces("", "(list 1) ", 4, 2, 2, 2, 2, 2, 0);
        traces("", "(define a 1) ", 6, 0, 0, 0, 0);
        // A frame's C: the values there are.
        traces("", "(list '(1) 2) ", 12, 10, 10, 10, 6, 6, 6, 6, 0);
        // The environment alone, of which x's binding comes to (1): after the 6th and the 7th step.
        traces("", "((lambda (x) 7) '(1)) ", 18, 16, 13, 13, 9, 6, 6, 0);
        // A frame's B alone: IF holds the list (5) and x's environment, while g's body is evaluated in its own.
        traces("(define g (lambda () 5))", "((lambda (x) (if (g) 5)) '(1)) ",
                29, 27, 24, 24, 20, 17, 13, 11, 11, 11, 11, 9, 9, 3);
        // f: 3 cells, its body 5 pairs; its environment 2 pairs, and y's list.
        String f = "(define f ((lambda (y) (lambda () (if (car y) 5))) '(1)))";
        traces(f, "(f) ", 21, 19, 19, 19, 19, 19, 19, 21, 21, 19, 19, 19, 19);
    }

    private static void cellsInUseWhileAValueGoesBack() {
        Trial.about("Promise 7 (Terms)", "(The environment stays what it was while MODE is RETURN.)");
        // What car has given goes back in the 11th step, of which the environment holds x's binding and (1).
        traces("", "((lambda (x) (car x)) '(1)) ", 22, 20, 17, 17, 13, 10, 8, 8, 8, 8, 6, 0);
        // IF has no second branch: behind the 9th step, x's binding is in use still.
        traces("", "(if ((lambda (x) nil) 5) 1) ", 18, 14, 12, 9, 9, 9, 6, 6, 4, 0);
        // An IF that has one goes on in its own environment, which is NIL.
        traces("", "(if ((lambda (x) nil) 5) 1 2) ", 20, 16, 14, 11, 11, 11, 8, 8, 0, 0, 0);
        // So does what DEFINE and SET give back: of both, x's binding stays up to the last step.
        traces("", "(define a ((lambda (x) 1) 5)) ", 18, 12, 10, 7, 7, 7, 4, 4, 4, 0);
        traces("", "(set! t ((lambda (x) 1) 5)) ", 18, 12, 10, 7, 7, 7, 4, 4, 4, 0);
    }

    private static void cellsInUseByFrames() {
        Trial.about("Promise 7 (Terms)",
                "FRAMES (at most 30; each has a kind and three values A, B, C; what is not named is NIL)");
        // A frame DEFINE has no environment, so x's binding and (1 2) go with the 10th step, where k's body begins.
        traces("(define k (lambda () 5))", "((lambda (x) (define a (k))) '(1 2)) ",
                31, 29, 26, 26, 22, 19, 13, 11, 11, 3, 3, 3, 3);
        // A frame SET has one: they stay up to the 12th step, in which the frame goes.
        traces("(define k (lambda () 5))", "((lambda (x) (set! t (k))) '(1 2)) ",
                31, 29, 26, 26, 22, 19, 13, 11, 11, 11, 11, 3, 3);
    }

    private static void cellsInUseByEachGlobal() {
        Trial.about("Promise 7 (Terms)", IN_USE);
        // Of the first symbol, the 16th, the first new one, and the 40th: 2 cells for each.
        String names = "a1 a2 a3 a4 a5 a6 a7 a8 a9 b1 b2 b3 b4 b5 b6 b7 b8 b9 c1 c2 c3 c4 c5 c6";
        Trial trial = new Trial(100).gives("'(" + names + ")", "(" + names + ")");
        Trial.due("symbols", trial.lisp.count(2), 40);
        String[] defined = {"+", "t", "a1", "c6"};
        for (int i = 0; i < defined.length; i++) {
            trial.gives("(define " + defined[i] + " '(" + i + "))", defined[i]);
            Trial.due("liveCells", trial.lisp.liveCells(), 2 * i + 2);
        }
        // They are still there when others have asked for the rest of the room.
        trial.gives("(atom? '(1 2 3 4 5 6 7 8 9 10 11 12 13 14 15 16 17 18 19 20 21 22 23 24 25 26 27 28 29 30))", "()");
        for (int i = 0; i < defined.length; i++) {
            trial.gives(defined[i] + " ", "(" + i + ")").gives("(define " + defined[i] + " 1)", defined[i]);
            Trial.due("liveCells", trial.lisp.liveCells(), 6 - 2 * i);
        }
    }

    private static void cellsInUseThatAreShared() {
        Trial.about("Promise 7 (Terms)", IN_USE);
        // Cells to which there are many ways are in use but once.
        Trial trial = new Trial(60).gives("(define a '(1))", "a");
        Trial.due("liveCells", trial.lisp.liveCells(), 2);
        trial.gives("(define b a)", "b").gives("(define a (cons a a))", "a");
        Trial.due("liveCells", trial.lisp.liveCells(), 4);
        trial.gives("(define a (cons a a))", "a").gives("(define a 1)", "a");
        Trial.due("liveCells", trial.lisp.liveCells(), 2);
        trial.gives("(set! b 1)", "1");
        Trial.due("liveCells", trial.lisp.liveCells(), 0);
        // A closure that its own environment binds: 3 cells and 2 pairs, as long as one comes to it.
        trial.gives("(define a ((lambda (f) (set! f (lambda () f))) 1))", "a");
        Trial.due("liveCells", trial.lisp.liveCells(), 7);
        trial.gives("(eq? (a) a)", "t").gives("(define a 1)", "a");
        Trial.due("liveCells", trial.lisp.liveCells(), 0);
    }

    // ---- asking for cells

    private static final String ASKS = "A step that makes pairs or closures asks for all their cells at once, before anything "
            + "is changed: if those in use and these are more than SIZE: error ROOM.";

    /** With so many cells the form answers as due, and with one more; with one less it is error ROOM in that step. */
    private static void needs(int cells, String before, String form, int answer, int step) {
        for (int size = cells - 1; size <= cells + 1; size++) {
            Trial trial = new Trial(size).feed(before);
            runsAllOf(trial, before);
            int kept = trial.lisp.liveCells();
            trial.feed(form + "5 ");
            Trial.due(form + " in " + size + " cells", trial.runToEnd(), size < cells ? CellLisp.ROOM : answer);
            if (size < cells) {
                Trial.due("steps of " + form, trial.lisp.count(3), step);
            }
            Trial.due("frames after " + form, trial.lisp.count(1), 0);
            Trial.due("liveCells after " + form, trial.lisp.liveCells(), kept);
            Trial.due("text after " + form, trial.lisp.count(0), 2);
            trial.lisp.clearOut();
            trial.gives("", "5");
        }
    }

    private static void runsAllOf(Trial trial, String before) {
        for (int i = 0; i < 5 && trial.lisp.count(0) > 0; i++) {
            Trial.due("end of " + before, trial.runToEnd(), CellLisp.DONE);
        }
        trial.lisp.clearOut();
    }

    private static final String READING = "READING asks for all cells of its form, its symbols being known.";

    private static void readingAsks() {
        about(READING);
        // The same steps in a room that has just these cells: nothing later on asks for more.
        needs(22, "", "'(1 2 3 4 5 6 7 8 9)", CellLisp.DONE, 1);
        needs(22, "", "(quote (1 2 3 4 5 6 7 8 9))", CellLisp.DONE, 1);
        needs(22, "", "'(1 (2 3) ((4)) () nil)", CellLisp.DONE, 1);
        needs(22, "", "'('a 'b '())", CellLisp.DONE, 1);
        needs(22, "", "'((((((((1))))))) 2)", CellLisp.DONE, 1);
        needs(22, "", "(undef 2 3 4 5 6 7 8 9 10 11)", CellLisp.UNBOUND, 1);
        // Those that are kept count, too: 300 and 50 pairs.
        Trial trial = new Trial(400);
        String[] names = {"a", "b", "c"};
        for (String name : names) {
            trial.gives("(define " + name + " '(1" + " 1".repeat(49) + "))", name);
        }
        trial.fails("(undef" + " 1".repeat(50) + ")", CellLisp.ROOM);
        trial.fails("(undef" + " 1".repeat(49) + ")", CellLisp.UNBOUND);
        Trial.due("liveCells", trial.lisp.liveCells(), 300);
    }

    private static void readingKnowsItsSymbols() {
        about(READING);
        Trial trial = new Trial(20).feed("(a b a c 5 6 7 8 9 d e)");
        Trial.due("run", trial.lisp.run(1), CellLisp.ROOM);
        Trial.due("symbols", trial.lisp.count(2), 21);
        Trial.due("text", trial.lisp.count(0), 0);
        Trial.due("steps", trial.lisp.count(3), 1);
        Trial.due("liveCells", trial.lisp.liveCells(), 0);
        trial.fails("a ", CellLisp.UNBOUND).gives("'e ", "e");
        Trial.due("symbols", trial.lisp.count(2), 21);
    }

    private static void lambdaAsks() {
        about(ASKS);
        // Its form has 9 pairs.
        needs(21, "", "(lambda () '(1 1 1 1))", CellLisp.DONE, 2);
        needs(23, "", "(lambda (x) '(1 1 1 1))", CellLisp.DONE, 2);
    }

    private static void argumentsAsk() {
        about(ASKS);
        // Evaluating f's body leaves it as it is: 13 cells, and 2 for each of 5 values.
        needs(23, "(define f (lambda () (car 1 1 1 1)))", "(f)", CellLisp.COUNT, 15);
        // A form that goes while its values come: it has 11 pairs, and never more.
        needs(22, "", "(car 1 2 3 4 5 6 7 8 9 10)", CellLisp.COUNT, 1);
    }

    private static final String FIRST = "(ARGUMENTS asks for the pair first; then APPLY for what it makes, the frame still being "
            + "there with the longer C.)";

    private static void argumentsAskFirst() {
        about(FIRST);
        // With one cell less, the wrong call is not come to: the pair is asked for before.
        needs(23, "(define f (lambda () (5 1 1 1 1)))", "(f)", CellLisp.TYPE, 15);
        needs(23, "(define f (lambda () (atom? 1 1 1 1)))", "(f)", CellLisp.COUNT, 15);
        // f is 5 pairs and 3 cells: 13; C, with the last value, 5 pairs; what list makes, 4: 31 in all.
        needs(31, "(define f (lambda () (list 1 1 1 1)))", "(f)", CellLisp.DONE, 15);
        // A wrong call asks for nothing but the pair.
        needs(23, "(define f (lambda () (cons 1 1 1 1)))", "(f)", CellLisp.COUNT, 15);
    }

    private static void closuresAsk() {
        about(ASKS);
        // f 3 cells and its list 1 to 4 pairs, C a pair more than the list, and two pairs for each parameter.
        needs(21, "(define f (lambda (x y) 1))", "(f 1 2)", CellLisp.DONE, 8);
        needs(29, "(define f (lambda (x y z) 1))", "(f 1 2 3)", CellLisp.DONE, 10);
        needs(37, "(define f (lambda (x y z w) 1))", "(f 1 2 3 4)", CellLisp.DONE, 12);
        // Of one parameter: f 5 cells, g 3 and 4 pairs; one value of the outer call, two of the inner one, and
        // two pairs: 26. Then two values of the outer call, the environment of the inner one, which stays while
        // its value goes back, and two pairs more: 28.
        String before = "(define f (lambda (x) 1))(define g (lambda () (f (f 1))))";
        needs(28, before, "(g)", CellLisp.DONE, 14);
        failsInStep(26, before, "(g)", 14);
        failsInStep(25, before, "(g)", 12);
    }

    private static void failsInStep(int size, String before, String form, int step) {
        Trial trial = new Trial(size).feed(before);
        runsAllOf(trial, before);
        trial.feed(form);
        Trial.due(form + " in " + size + " cells", trial.runToEnd(), CellLisp.ROOM);
        Trial.due("steps of " + form + " in " + size + " cells", trial.lisp.count(3), step);
    }

    private static void consAsks() {
        about(ASKS);
        // f 3 and 6 pairs; two values of the outer call, three of the inner one, and its pair.
        needs(27, "(define f (lambda () (cons 1 (cons 1 1))))", "(f)", CellLisp.DONE, 16);
    }

    private static void listAsks() {
        about(ASKS);
        // f 3 and 4 pairs; four values, and a list of three.
        needs(25, "(define f (lambda () (list 1 1 1)))", "(f)", CellLisp.DONE, 13);
        // One value more: 6 cells more.
        needs(31, "(define f (lambda () (list 1 1 1 1)))", "(f)", CellLisp.DONE, 15);
    }

    private static void othersAskForNothing() {
        about(ASKS);
        // g is 3 cells and 6 pairs with those of the call in it; C has 5 pairs when that call begins. With one
        // cell less, its last value finds no room; else it is applied in a full room.
        needs(32, "(define f (lambda () 1))" + withCall("(f)"), "(g)", CellLisp.COUNT, 18);
        needs(29, withCall("(list)"), "(g)", CellLisp.COUNT, 18);
        needs(33, withCall("(atom? 1)"), "(g)", CellLisp.COUNT, 20);
        needs(39, withCall("(car '(1))"), "(g)", CellLisp.COUNT, 20);
        needs(39, withCall("(cdr '(1))"), "(g)", CellLisp.COUNT, 20);
        String[] twos = {"+", "-", "*", "<", "eq?"};
        for (String primitive : twos) {
            needs(37, withCall("(" + primitive + " 1 2)"), "(g)", CellLisp.COUNT, 22);
        }
        // Frames and special forms but lambda need none: these fill the room when they are read.
        needs(22, "", "(if t '(1 1 1 1 1 1))", CellLisp.DONE, 1);
        needs(22, "", "(define a (if nil '(1 1 1)))", CellLisp.DONE, 1);
        needs(22, "", "(set! t (if nil '(1 1 1)))", CellLisp.DONE, 1);
    }

    private static String withCall(String call) {
        return "(define g (lambda () (car 1 1 1 1 " + call + ")))";
    }

    private static void roomErrorChangesNothing() {
        about(ASKS);
        Trial trial = new Trial(22).feed("(define f (lambda () (car 1 1 1 1)))");
        Trial.due("run", trial.runToEnd(), CellLisp.DONE);
        String[] forms = {"(f)", "(define t (f))", "(set! t (f))", "(define x (f))", "(if (f) 1 2)", "(1 2 3 4 5)"};
        for (String form : forms) {
            trial.feed(form);
            Trial.due("run of " + form, trial.runToEnd(), CellLisp.ROOM);
            Trial.due("frames after " + form, trial.lisp.count(1), 0);
            Trial.due("liveCells after " + form, trial.lisp.liveCells(), 13);
            Trial.due("text after " + form, trial.lisp.count(0), 0);
            Trial.due("outSize after " + form, trial.lisp.outSize(), 2);
        }
        Trial.due("taken", trial.taken(), "f\n");
        trial.gives("t ", "t").fails("x ", CellLisp.UNBOUND).gives("f ", "<fn>");
    }

    private static void cellsAreThereAgain() {
        Trial.about("All promises", "cells that nobody can come to any more are there again for others when there is need.");
        // 300 rounds in a room that has just the cells for one.
        needs(45, "(define f (lambda (n) (if (< n 1) 'ok (f (- n 1)))))", "(f 300)", CellLisp.DONE, 25);
        // Cells that come to one another, but to which nobody comes: 15 pairs are read while 7 cells are in use.
        String round = "(define a ((lambda (f) (set! f (lambda () f))) 1))";
        Trial trial = new Trial(37);
        for (int i = 0; i < 20; i++) {
            trial.gives(round, "a");
            Trial.due("liveCells", trial.lisp.liveCells(), 7);
        }
        new Trial(36).gives(round, "a").fails(round, CellLisp.ROOM).gives("(define a 1)", "a").gives(round, "a");
        // What a form that failed has left behind.
        Trial failing = new Trial(24);
        for (int i = 0; i < 20; i++) {
            failing.fails("(list '(1 2) '(3) (car 5))", CellLisp.ROOM).fails("(list '(1 2) (car 5))", CellLisp.TYPE);
            Trial.due("liveCells", failing.lisp.liveCells(), 0);
        }
    }
}
