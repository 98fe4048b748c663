/** Promise 3: run, what forms give, and their errors. */
public final class RunTest {
    public static void main(String[] args) {
        keepsToItsFuel();
        evaluatesSpecialForms();
        refusesOtherShapes();
        bindsAndSets();
        calculates();
        comparesAndTakesApart();
        findsWrongCalls();
        appliesClosures();
        goesOnAfterErrors();
        keepsTailCallsFlat();
        endsAtThe31stFrame();
        asksForCells();
        Trial.end();
    }

    private static void takesSteps(String text, int steps) {
        for (int fuel = 1; fuel <= steps + 1; fuel++) {
            Trial trial = new Trial(400).feed(text);
            int answer = CellLisp.MORE;
            for (int done = 0; done < steps; done += fuel) {
                Trial.due("no end of " + text, answer, CellLisp.MORE);
                Trial.due("steps of " + text, trial.lisp.count(3), done);
                answer = trial.lisp.run(fuel);
            }
            Trial.due("end of " + text, answer, CellLisp.DONE);
            Trial.due("steps of " + text, trial.lisp.count(3), steps);
        }
    }

    private static void keepsToItsFuel() {
        takesSteps("5 ", 3);
        takesSteps("t ", 3);
        takesSteps("() ", 3);
        takesSteps("'x ", 3);
        takesSteps("(+ 1 2) ", 9);
        takesSteps("(if 1 2) ", 6);
        takesSteps("(if () 2) ", 5);
        takesSteps("(define x 2) ", 5);
        takesSteps("(set! t 2) ", 5);
        takesSteps("(lambda () 1) ", 3);
        takesSteps("((lambda () 1)) ", 6);
        takesSteps("(list) ", 5);
        int[] low = {1, 0, -1, Integer.MIN_VALUE};
        for (int fuel : low) {
            Trial trial = new Trial(100).feed("5 6 ");
            Trial.due("reading", trial.lisp.run(fuel), CellLisp.MORE);
            Trial.due("EVAL", trial.lisp.run(fuel), CellLisp.MORE);
            Trial.due("RETURN", trial.lisp.run(fuel), CellLisp.DONE);
            Trial.due("steps", trial.lisp.count(3), 3);
        }
        int[] high = {1000, 1001, 5000, Integer.MAX_VALUE};
        for (int fuel : high) {
            Trial trial = new Trial(100).feed("(define f (lambda () (f))) (f) ");
            Trial.due("one form", trial.lisp.run(fuel), CellLisp.DONE);
            Trial.due("without end", trial.lisp.run(fuel), CellLisp.MORE);
            Trial.due("steps", trial.lisp.count(3), 1000);
            Trial.due("without end", trial.lisp.run(fuel), CellLisp.MORE);
            Trial.due("steps", trial.lisp.count(3), 2000);
        }
        Trial trial = new Trial(100).feed("1 2 ");
        Trial.due("one form at a time", trial.lisp.run(1000), CellLisp.DONE);
        Trial.due("taken", trial.taken(), "1\n");
        Trial.due("one form at a time", trial.lisp.run(1000), CellLisp.DONE);
        Trial.due("taken", trial.taken(), "2\n");
        Trial.due("no form", trial.lisp.run(1000), CellLisp.NONE);
        Trial.due("steps", trial.lisp.count(3), 3);
    }

    private static void evaluatesSpecialForms() {
        Trial trial = new Trial(400);
        trial.gives("(quote (a b)) ", "(a b)").gives("(quote quote) ", "quote");
        trial.gives("(if t 1 2) ", "1").gives("(if () 1 2) ", "2").gives("(if nil 1) ", "()");
        trial.gives("(if 0 1) ", "1").gives("(if car 1) ", "1").gives("(if '() 'x '(y)) ", "(y)");
        trial.gives("(if (< 1 2) (list 1) (undef)) ", "(1)");
        trial.gives("(lambda (x) x) ", "<fn>").gives("(lambda () y) ", "<fn>").gives("(lambda nil 1) ", "<fn>");
        trial.gives("(lambda (a b c d) 1) ", "<fn>").gives("(lambda (a a if t) 1) ", "<fn>");
        trial.gives("(define y (+ 1 2)) ", "y").gives("y ", "3").gives("(set! y (list y)) ", "(3)").gives("y ", "(3)");
        trial.gives("(define quote 5) ", "quote").gives("quote ", "5").gives("(quote x) ", "x").gives("'x ", "x");
        trial.gives("((lambda (if) (if if 1 2)) nil) ", "2").gives("car ", "car").gives("t ", "t");
        trial.gives("(define if list) ", "if").gives("(if 1 2 3) ", "2");
    }

    private static void refusesOtherShapes() {
        Trial trial = new Trial(400);
        String[] faults = {
            "(quote)", "(quote a b)", "(if)", "(if 1)", "(if 1 2 3 4)", "(lambda)", "(lambda ())",
            "(lambda (x))", "(lambda () 1 2)", "(lambda x 1)", "(lambda 5 1)", "(lambda (1) 1)",
            "(lambda (a ()) 1)", "(lambda ((a)) 1)", "(lambda ('a) 1)", "(lambda (a b c d e) 1)",
            "(lambda (a b c d 5) 1)", "(define)", "(define x)", "(define x 1 2)", "(define 5 1)",
            "(define (x) 1)", "(define nil 1)", "(define 'x 1)", "(set!)", "(set! x)", "(set! x 1 2)",
            "(set! 5 1)", "(set! () 1)", "(set! (x) 1)", "(define x (quote))", "(list (if))"};
        for (String fault : faults) {
            trial.fails(fault, CellLisp.FORM);
        }
        Trial.due("cells", trial.lisp.liveCells(), 0);
        trial.fails("x ", CellLisp.UNBOUND);
    }

    private static void bindsAndSets() {
        Trial trial = new Trial(400);
        trial.fails("x ", CellLisp.UNBOUND).fails("(set! x 1) ", CellLisp.UNBOUND).fails("if ", CellLisp.UNBOUND);
        trial.fails("(define x y) ", CellLisp.UNBOUND).fails("(x) ", CellLisp.UNBOUND).fails("(list x) ", CellLisp.UNBOUND);
        trial.gives("(define x 1) ", "x").gives("(set! x 2) ", "2").gives("x ", "2");
        trial.gives("((lambda (x) (list (set! x 7) x)) 5) ", "(7 7)").gives("x ", "2");
        trial.gives("((lambda (y) (list (set! x 7) y)) 5) ", "(7 5)").gives("x ", "7");
        trial.gives("((lambda (x) (list (define x 8) x)) 5) ", "(x 5)").gives("x ", "8");
        trial.gives("((lambda (x x) x) 1 2) ", "2").gives("((lambda (x y x) (list x y)) 1 2 3) ", "(3 2)");
        trial.gives("((lambda (x x) (list (set! x 9) x)) 1 2) ", "(9 9)");
        trial.gives("(define t 5) ", "t").gives("t ", "5").gives("(< 1 2) ", "t").gives("(if (eq? (< 1 2) t) 1 0) ", "0");
        trial.gives("(define n ((lambda (k) (lambda () (set! k (+ k 1)))) 10)) ", "n");
        trial.gives("(n) ", "11").gives("(n) ", "12").gives("(n) ", "13");
        trial.gives("(define x (set! n x)) ", "x").gives("n ", "8");
    }

    private static void calculates() {
        Trial trial = new Trial(400);
        trial.gives("(+ 1 -2) ", "-1").gives("(- 1 2) ", "-1").gives("(* -3 4) ", "-12");
        trial.gives("(+ 268435455 1) ", "-268435456").gives("(- -268435456 1) ", "268435455");
        trial.gives("(- 0 -268435456) ", "-268435456").gives("(* 268435455 268435455) ", "1");
        trial.gives("(* -268435456 -268435456) ", "0").gives("(* -268435456 -1) ", "-268435456");
        trial.gives("(* 99999999 99999999) ", Long.toString(wrapped(99999999L * 99999999L)));
        trial.gives("(* 12345 -67890) ", Long.toString(wrapped(12345L * -67890L)));
        trial.gives("(< 1 2) ", "t").gives("(< 2 2) ", "()").gives("(< 3 2) ", "()").gives("(< -1 0) ", "t");
        trial.gives("(< -268435456 268435455) ", "t").gives("(< 268435455 -268435456) ", "()");
    }

    private static long wrapped(long number) {
        long rest = Math.floorMod(number, 536870912L);
        return rest > 268435455L ? rest - 536870912L : rest;
    }

    private static void comparesAndTakesApart() {
        Trial trial = new Trial(400);
        trial.gives("(eq? 1 1) ", "t").gives("(eq? 1 2) ", "()").gives("(eq? 'a 'a) ", "t").gives("(eq? 'a 'b) ", "()");
        trial.gives("(eq? () nil) ", "t").gives("(eq? 0 nil) ", "()").gives("(eq? car car) ", "t");
        trial.gives("(eq? car cdr) ", "()").gives("(eq? car 'car) ", "()").gives("(eq? '(1) '(1)) ", "()");
        trial.gives("((lambda (x) (eq? x x)) '(1)) ", "t").gives("((lambda (x) (eq? x x)) (lambda () 1)) ", "t");
        trial.gives("(eq? (lambda () 1) (lambda () 1)) ", "()").gives("(eq? 7 '7) ", "t");
        trial.gives("((lambda (x) (eq? (cdr x) (cdr (cons 1 (cdr x))))) '(1 2)) ", "t");
        trial.gives("(atom? 1) ", "t").gives("(atom? 'a) ", "t").gives("(atom? ()) ", "t").gives("(atom? '(1)) ", "()");
        trial.gives("(atom? car) ", "t").gives("(atom? (lambda () 1)) ", "t");
        trial.gives("(cons 1 2) ", "(1 . 2)").gives("(cons 1 '(2)) ", "(1 2)").gives("(cons () ()) ", "(())");
        trial.gives("(car '(1 2)) ", "1").gives("(cdr '(1 2)) ", "(2)").gives("(cdr '(1)) ", "()");
        trial.gives("(car (cons 3 4)) ", "3").gives("(cdr (cons 3 4)) ", "4");
        trial.gives("(list) ", "()").gives("(list 1) ", "(1)").gives("(list 1 'b () car) ", "(1 b () car)");
        trial.gives("((car (list + -)) 5 3) ", "8").gives("((car (cdr (list + -))) 5 3) ", "2");
    }

    private static void findsWrongCalls() {
        Trial trial = new Trial(400);
        String[] twos = {"+", "-", "*", "<", "eq?", "cons"};
        for (String two : twos) {
            trial.fails("(" + two + ")", CellLisp.COUNT).fails("(" + two + " 1)", CellLisp.COUNT);
            trial.fails("(" + two + " 1 2 3)", CellLisp.COUNT).fails("(" + two + " 'a 2 3)", CellLisp.COUNT);
        }
        String[] ones = {"atom?", "car", "cdr"};
        for (String one : ones) {
            trial.fails("(" + one + ")", CellLisp.COUNT).fails("(" + one + " '(1) 2)", CellLisp.COUNT);
        }
        String[] numeric = {"+", "-", "*", "<"};
        for (String of : numeric) {
            trial.fails("(" + of + " 'a 2)", CellLisp.TYPE).fails("(" + of + " 1 'a)", CellLisp.TYPE);
            trial.fails("(" + of + " () 2)", CellLisp.TYPE).fails("(" + of + " 1 '(1))", CellLisp.TYPE);
            trial.fails("(" + of + " car 2)", CellLisp.TYPE).fails("(" + of + " 1 (lambda () 1))", CellLisp.TYPE);
        }
        String[] noPairs = {"1", "'a", "()", "car", "(lambda () 1)"};
        for (String no : noPairs) {
            trial.fails("(car " + no + ")", CellLisp.TYPE).fails("(cdr " + no + ")", CellLisp.TYPE);
        }
        trial.fails("(5)", CellLisp.TYPE).fails("(() 1)", CellLisp.TYPE).fails("('car 1)", CellLisp.TYPE);
        trial.fails("('(1) 1)", CellLisp.TYPE).fails("((list car) 1)", CellLisp.TYPE).fails("(t)", CellLisp.TYPE);
        trial.fails("((lambda (x) x))", CellLisp.COUNT).fails("((lambda (x) x) 1 2)", CellLisp.COUNT);
        trial.fails("((lambda () 1) 1)", CellLisp.COUNT).fails("((lambda (a b c d) 1) 1 2 3)", CellLisp.COUNT);
        trial.fails("(5 undef)", CellLisp.UNBOUND).fails("(undef (5))", CellLisp.UNBOUND);
    }

    private static void appliesClosures() {
        Trial trial = new Trial(400);
        trial.gives("((lambda (a b c d) (list d c b a)) 1 2 3 4) ", "(4 3 2 1)");
        trial.gives("(define add (lambda (n) (lambda (m) (+ n m)))) ", "add").gives("((add 3) 4) ", "7");
        trial.gives("(define x 1) ", "x").gives("(define get (lambda () x)) ", "get");
        trial.gives("((lambda (x) (get)) 2) ", "1").gives("(set! x 3) ", "3").gives("(get) ", "3");
        trial.gives("(define fac (lambda (n) (if (< n 2) 1 (* n (fac (- n 1)))))) ", "fac").gives("(fac 10) ", "3628800");
        trial.gives("(define map (lambda (f l) (if l (cons (f (car l)) (map f (cdr l)))))) ", "map");
        trial.gives("(map (add 1) '(1 2 3)) ", "(2 3 4)").gives("(map list '(1 2)) ", "((1) (2))");
    }

    private static void goesOnAfterErrors() {
        Trial trial = new Trial(60).feed("(list 1 (car 5)) (+ 1 2) ");
        Trial.due("run", trial.lisp.run(1000), CellLisp.TYPE);
        Trial.due("frames", trial.lisp.count(1), 0);
        Trial.due("cells", trial.lisp.liveCells(), 0);
        Trial.due("text", trial.lisp.count(0), 9);
        trial.gives("", "3");
    }

    private static void keepsTailCallsFlat() {
        Trial trial = new Trial(80);
        trial.gives("(define f (lambda (n) (if (< n 1) 'ok (f (- n 1))))) ", "f").gives("(f 500) ", "ok");
    }

    private static void endsAtThe31stFrame() {
        Trial trial = new Trial(400);
        trial.gives("(define f (lambda (n) (if (< n 1) 0 (+ 1 (f (- n 1)))))) ", "f");
        // A call within n others holds n frames; (< n 1) in its IF needs two more, (- n 1) too.
        trial.gives("(f 28) ", "28").fails("(f 29) ", CellLisp.STACK);
    }

    private static void asksForCells() {
        Trial trial = new Trial(20);
        // The values and list are 5 pairs, what list makes 4.
        trial.gives("(list 1 2 3 4) ", "(1 2 3 4)").fails("(list 1 2 3 4 5) ", CellLisp.ROOM);
        trial.gives("(list 1 2 3 4) ", "(1 2 3 4)");
        // When it is applied: three values kept, the closure and its list, and two bindings.
        String call = "((lambda (x y) 1) 1 2) ";
        new Trial(20).fails(call, CellLisp.ROOM);
        new Trial(21).gives(call, "1");
        // A wrong call is found before its cells are asked for.
        trial.fails("(cons 1 2 3 4 5 6 7 8 9) ", CellLisp.COUNT);
        // A list of 5 pairs is kept, so that 10 cells are left.
        trial.gives("(define a '(1 2 3 4 5)) ", "a");
        trial.fails("(+ a 1 2 3) ", CellLisp.COUNT).fails("(+ a '(1)) ", CellLisp.ROOM);
        trial.gives("(cons 1 a) ", "(1 1 2 3 4 5)").fails("(list 1 2 3) ", CellLisp.ROOM);
        Trial.due("cells", trial.lisp.liveCells(), 10);
    }
}
