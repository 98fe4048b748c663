/** Promises 4, 5 and 6: outSize, out, clearOut, and what is printed. */
public final class OutTest {
    public static void main(String[] args) {
        tellsWhatWaits();
        printsValues();
        keepsAtMost200();
        endsWithSharedPairs();
        Trial.end();
    }

    private static void tellsWhatWaits() {
        Trial trial = new Trial(100).feed("-25 'ab ");
        Trial.due("outSize", trial.lisp.outSize(), 0);
        Trial.due("run", trial.lisp.run(2), CellLisp.MORE);
        Trial.due("outSize", trial.lisp.outSize(), 0);
        Trial.due("run", trial.lisp.run(1), CellLisp.DONE);
        Trial.due("outSize", trial.lisp.outSize(), 4);
        Trial.due("run", trial.lisp.run(9), CellLisp.DONE);
        Trial.due("outSize", trial.lisp.outSize(), 7);
        int[] due = {'-', '2', '5', 10, 'a', 'b', 10, -1, -1};
        for (int i = 0; i < due.length; i++) {
            Trial.due("out " + i, trial.lisp.out(i), due[i]);
        }
        int[] none = {-1, 7, 199, 200, 201, Integer.MIN_VALUE, Integer.MAX_VALUE};
        for (int i : none) {
            Trial.due("out " + i, trial.lisp.out(i), -1);
        }
        Trial.due("outSize stays", trial.lisp.outSize(), 7);
        trial.lisp.clearOut();
        Trial.due("outSize", trial.lisp.outSize(), 0);
        Trial.due("out 0", trial.lisp.out(0), -1);
        trial.lisp.clearOut();
        trial.feed("7 ");
        Trial.due("run", trial.lisp.run(9), CellLisp.DONE);
        Trial.due("outSize", trial.lisp.outSize(), 2);
        Trial.due("out 0", trial.lisp.out(0), (int) '7');
        Trial.due("out 1", trial.lisp.out(1), 10);
        Trial.due("out 2", trial.lisp.out(2), -1);
    }

    private static void printsValues() {
        Trial trial = new Trial(200);
        trial.gives("-268435456 ", "-268435456").gives("268435455 ", "268435455").gives("0 ", "0");
        trial.gives("1000 ", "1000").gives("-10 ", "-10").gives("'abcdefghi ", "abcdefgh");
        trial.gives("nil ", "()").gives("eq? ", "eq?").gives("(define z atom?) ", "z").gives("z ", "atom?");
        trial.gives("(list + - * < eq? atom? cons car cdr list) ", "(+ - * < eq? atom? cons car cdr list)");
        trial.gives("(lambda (x) x) ", "<fn>").gives("(list (lambda () 1) 2) ", "(<fn> 2)");
        trial.gives("(cons 1 2) ", "(1 . 2)").gives("(cons 1 (cons 2 'c)) ", "(1 2 . c)");
        trial.gives("(cons (cons 1 2) (cons 3 car)) ", "((1 . 2) 3 . car)");
        trial.gives("(cons () (lambda () 1)) ", "(() . <fn>)").gives("'(() (())) ", "(() (()))");
        trial.gives("'(quote x) ", "(quote x)").gives("'('x) ", "((quote x))").gives("'(1 -2) ", "(1 -2)");
    }

    private static void keepsAtMost200() {
        Trial trial = new Trial(400);
        for (int i = 0; i < 19; i++) {
            trial.feed("123456789 ");
            Trial.due("run", trial.lisp.run(3), CellLisp.DONE);
        }
        Trial.due("outSize", trial.lisp.outSize(), 190);
        trial.feed("'abcdefgh ");
        Trial.due("run", trial.lisp.run(3), CellLisp.DONE);
        Trial.due("outSize", trial.lisp.outSize(), 199);
        trial.feed("'(a b) ");
        Trial.due("run", trial.lisp.run(3), CellLisp.DONE);
        Trial.due("outSize", trial.lisp.outSize(), 200);
        Trial.due("the last one", trial.lisp.out(199), (int) '(');
        Trial.due("none", trial.lisp.out(200), -1);
        trial.feed("5 ");
        Trial.due("run", trial.lisp.run(3), CellLisp.DONE);
        Trial.due("outSize", trial.lisp.outSize(), 200);
        Trial.due("the first one", trial.lisp.out(0), (int) '1');
        trial.lisp.clearOut();
        Trial.due("outSize", trial.lisp.outSize(), 0);
        trial.gives("5 ", "5");
    }

    /** A text of 8 to the 16th things, were it not cut. */
    private static void endsWithSharedPairs() {
        Trial trial = new Trial(400);
        trial.gives("(define a 7) ", "a");
        for (int i = 0; i < 20; i++) {
            trial.gives("(define a (list a a a a a a a a)) ", "a");
        }
        trial.feed("a a ");
        Trial.due("run", trial.lisp.run(3), CellLisp.DONE);
        Trial.due("outSize", trial.lisp.outSize(), 200);
        Trial.due("run", trial.lisp.run(3), CellLisp.DONE);
        String part = "(... ... ... ... ... ... ... ...)";
        String due = "(".repeat(15) + (part + " ").repeat(7) + part;
        Trial.due("taken", trial.taken(), due.substring(0, 200));
    }
}
