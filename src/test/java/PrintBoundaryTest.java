/** The boundary cases of what is printed, which the Terms name and the promises 3 to 6 show. */
public final class PrintBoundaryTest {
    public static void main(String[] args) {
        numbers();
        symbolsAndOthers();
        lists();
        mostWaiting();
        othersAreLost();
        lostCharactersStayLost();
        mostParentheses();
        otherThingsWithin16();
        mostThings();
        mostThingsBeforeAPoint();
        mostThingsOfEachList();
        Trial.end();
    }

    private static final String PRINTED = "Numbers are PRINTED with digits (and - ), symbols by their characters, NIL as (), "
            + "primitives as their symbols, closures as <fn>, pairs as lists, with a point between blanks before a last CDR that "
            + "is not NIL.";

    private static void numbers() {
        Trial.about("Promise 3 (Terms)", PRINTED);
        int[] units = {1, 10, 100, 1000, 10000, 100000, 1000000, 10000000, 100000000};
        for (int unit : units) {
            Trial each = new Trial(60);
            for (int number = unit - 1; number <= unit + 1; number++) {
                each.gives(number + " ", Integer.toString(number));
                each.gives("(- 0 " + number + ")", Integer.toString(-number));
            }
        }
        Trial trial = new Trial(60).gives("0 ", "0").gives("-0 ", "0");
        trial.gives("268435455 ", "268435455").gives("-268435456 ", "-268435456").gives("-268435455 ", "-268435455");
        trial.gives("909090909 ", "-164650915").gives("200000002 ", "200000002").gives("'(1 -1 0)", "(1 -1 0)");
    }

    private static void symbolsAndOthers() {
        Trial.about("Promise 3 (Terms)", PRINTED);
        Trial trial = new Trial(100);
        trial.gives("'a ", "a").gives("'abcdefgh ", "abcdefgh").gives("'abcdefghi ", "abcdefgh").gives("'... ", "...");
        trial.gives("'<fn> ", "<fn>").gives("'!~ ", "!~").gives("()", "()").gives("nil ", "()").gives("'nil ", "()");
        trial.gives("(list + - * < eq? atom? cons car cdr list)", "(+ - * < eq? atom? cons car cdr list)");
        trial.gives("'(+ - * < eq? atom? cons car cdr list)", "(+ - * < eq? atom? cons car cdr list)");
        trial.gives("(lambda () 1)", "<fn>").gives("(lambda (a b c d) '(1))", "<fn>").gives("(list (lambda () 1))", "(<fn>)");
        // Under another name, a primitive is still printed as its own.
        trial.gives("(define x car)", "x").gives("x ", "car").gives("(define car 5)", "car").gives("x ", "car");
    }

    private static void lists() {
        Trial.about("Promise 3 (Terms)", PRINTED);
        Trial trial = new Trial(100);
        trial.gives("'(1)", "(1)").gives("'(1 2)", "(1 2)").gives("(cons 1 ())", "(1)").gives("'(())", "(())");
        trial.gives("'(() ())", "(() ())").gives("'((1) (2 3))", "((1) (2 3))").gives("'('x)", "((quote x))");
        String[] last = {"0", "-1", "'x", "car", "(lambda () 1)"};
        String[] printed = {"0", "-1", "x", "car", "<fn>"};
        for (int i = 0; i < last.length; i++) {
            Trial each = new Trial(100);
            each.gives("(cons 1 " + last[i] + ")", "(1 . " + printed[i] + ")");
            each.gives("(cons 1 (cons 2 " + last[i] + "))", "(1 2 . " + printed[i] + ")");
            each.gives("(cons (cons 1 " + last[i] + ") ())", "((1 . " + printed[i] + "))");
            each.gives("(cons () " + last[i] + ")", "(() . " + printed[i] + ")");
        }
    }

    // ---- at most 200 characters

    private static final String WAITING = "At most 200 characters wait to be taken; others are lost.";

    private static void mostWaiting() {
        Trial.about("Promise 4 (Terms)", WAITING);
        // By the number that wait before 7 and 10 come.
        int[] at198 = {-1, 10, '7', 10, '9'};
        int[] at199 = {-1, -1, 10, '7', 10};
        for (int waiting = 196; waiting <= 200; waiting++) {
            Trial trial = Trial.withWaiting(waiting).feed("7 ");
            Trial.due("outSize", trial.lisp.outSize(), waiting);
            Trial.due("run", trial.lisp.run(3), CellLisp.DONE);
            Trial.due("outSize behind " + waiting, trial.lisp.outSize(), Math.min(200, waiting + 2));
            Trial.due("out(198) behind " + waiting, trial.lisp.out(198), at198[waiting - 196]);
            Trial.due("out(199) behind " + waiting, trial.lisp.out(199), at199[waiting - 196]);
            Trial.due("out(200)", trial.lisp.out(200), -1);
            Trial.due("out(0)", trial.lisp.out(0), (int) '1');
        }
    }

    private static void othersAreLost() {
        Trial.about("Promise 5 (Terms)", WAITING);
        String[] forms = {"-268435456 ", "'abcdefgh ", "()", "car ", "(lambda () 1)", "(cons 1 2)", "'(a (b c) ())",
            "(cons 12 (cons 'xy 'z))"};
        String[] printed = {"-268435456\n", "abcdefgh\n", "()\n", "car\n", "<fn>\n", "(1 . 2)\n", "(a (b c) ())\n", "(12 xy . z)\n"};
        for (int i = 0; i < forms.length; i++) {
            for (int waiting = 185; waiting <= 200; waiting++) {
                Trial trial = Trial.withWaiting(waiting).feed(forms[i]);
                Trial.due("run of " + forms[i], trial.runToEnd(), CellLisp.DONE);
                String taken = trial.taken();
                Trial.due("outSize behind " + waiting, taken.length(), Math.min(200, waiting + printed[i].length()));
                Trial.due("behind " + waiting, taken.substring(waiting), printed[i].substring(0, taken.length() - waiting));
            }
        }
        // A form that prints more than 200 by itself: 30 things of 8 characters.
        Trial trial = new Trial(400).gives("(define a 'abcdefgh)", "a");
        trial.feed("(list" + " a".repeat(30) + ")");
        Trial.due("run", trial.runToEnd(), CellLisp.DONE);
        Trial.due("taken", trial.taken(), ("(" + "abcdefgh ".repeat(30)).substring(0, 200));
    }

    private static void lostCharactersStayLost() {
        Trial.about("Promise 6 (Terms)", WAITING);
        for (int waiting = 197; waiting <= 200; waiting++) {
            Trial trial = Trial.withWaiting(waiting).feed("'(a b) 12 ");
            Trial.due("run", trial.runToEnd(), CellLisp.DONE);
            Trial.due("outSize", trial.lisp.outSize(), 200);
            trial.lisp.clearOut();
            Trial.due("outSize", trial.lisp.outSize(), 0);
            Trial.due("out(0)", trial.lisp.out(0), -1);
            trial.gives("", "12").gives("'c ", "c");
        }
    }

    // ---- at most 16 parentheses

    private static final String DEEP = "A pair that would stand within 16 parentheses already is printed as ... ;";

    /** In the form, (f n x) is x within so many lists of one thing each. */
    private static void nested(String form, String printed) {
        Trial trial = new Trial(400).gives("(define f (lambda (n x) (if (< n 1) x (f (- n 1) (list x)))))", "f");
        trial.gives(form, printed);
    }

    private static void mostParentheses() {
        Trial.about("Promise 3 (Terms)", DEEP);
        for (int depth = 0; depth <= 19; depth++) {
            int shown = Math.min(16, depth);
            String around = "(".repeat(shown) + "%s" + ")".repeat(shown);
            nested("(f " + depth + " 7)", String.format(around, depth > 16 ? "..." : "7"));
            nested("(f " + depth + " '(7))", String.format(around, depth > 15 ? "..." : "(7)"));
            nested("(f " + depth + " '(1 2))", String.format(around, depth > 15 ? "..." : "(1 2)"));
            nested("(f " + depth + " (cons 1 2))", String.format(around, depth > 15 ? "..." : "(1 . 2)"));
        }
    }

    private static void otherThingsWithin16() {
        Trial.about("Promise 3 (Terms)", DEEP);
        String around = "(".repeat(15) + "%s" + ")".repeat(15);
        // The list within 15 is the 16th: what is no pair is printed in it, and so is a point.
        nested("(f 15 '(1 () x (2) 3 (4) (())))", String.format(around, "(1 () x ... 3 ... ...)"));
        nested("(f 15 (cons '(1) 2))", String.format(around, "(... . 2)"));
        nested("(f 15 (list car (lambda () 1) ()))", String.format(around, "(car <fn> ())"));
        nested("(f 16 ())", String.format(around, "(())"));
        nested("(f 16 car)", String.format(around, "(car)"));
        nested("(f 16 (lambda () 1))", String.format(around, "(<fn>)"));
        // Those that are closed again do not count.
        nested("(list (f 14 1) (f 15 2))", "(" + "(".repeat(14) + "1" + ")".repeat(14) + " " + String.format(around, "2") + ")");
        nested("(list (f 16 1) 2)", "(" + String.format(around, "...") + " 2)");
    }

    // ---- at most 40 things

    private static final String LONG = "if pairs come behind 40 things of a list, a blank, ... and the parenthesis follow these.";

    /** In the form, (f n x) is x behind so many 1s. */
    private static void behind(String form, String printed) {
        Trial trial = new Trial(400).gives("(define f (lambda (n x) (if (< n 1) x (f (- n 1) (cons 1 x)))))", "f");
        trial.gives(form, printed);
    }

    private static String ones(int n) {
        return "1" + " 1".repeat(n - 1);
    }

    private static void mostThings() {
        Trial.about("Promise 3 (Terms)", LONG);
        for (int n = 38; n <= 43; n++) {
            behind("(f " + n + " ())", n <= 40 ? "(" + ones(n) + ")" : "(" + ones(40) + " ...)");
        }
        behind("(f 80 ())", "(" + ones(40) + " ...)");
        behind("(f 39 '(x))", "(" + ones(39) + " x)");
        behind("(f 40 '(x))", "(" + ones(40) + " ...)");
        // The 40th thing is itself a pair.
        behind("(f 39 '((x y)))", "(" + ones(39) + " (x y))");
        behind("(f 39 '((x) y))", "(" + ones(39) + " (x) ...)");
        behind("(f 40 '((x)))", "(" + ones(40) + " ...)");
    }

    private static void mostThingsBeforeAPoint() {
        Trial.about("Promise 3 (Terms)", LONG);
        for (int n = 38; n <= 42; n++) {
            behind("(f " + n + " 7)", n <= 40 ? "(" + ones(n) + " . 7)" : "(" + ones(40) + " ...)");
            behind("(f " + n + " car)", n <= 40 ? "(" + ones(n) + " . car)" : "(" + ones(40) + " ...)");
        }
    }

    private static void mostThingsOfEachList() {
        Trial.about("Promise 3 (Terms)", LONG);
        behind("(list (f 40 ()) 2)", "((" + ones(40) + ") 2)");
        behind("(list (f 41 ()) 2)", "((" + ones(40) + " ...) 2)");
        behind("(list (f 40 ()) (f 41 ()))", "((" + ones(40) + ") (" + ones(40) + " ...))");
        behind("(f 39 (list (f 41 ())))", "(" + ones(39) + " (" + ones(40) + " ...))");
        behind("(f 41 (list (f 41 ())))", "(" + ones(40) + " ...)");
    }
}
