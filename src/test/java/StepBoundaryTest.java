/** The boundary cases of values, frames and steps, which the Terms name and promise 3 shows. */
public final class StepBoundaryTest {
    private static final String LEAST = "-268435456";
    private static final String MOST = "268435455";

    public static void main(String[] args) {
        range();
        products();
        globalsAtFirst();
        mostFrames();
        the31stFrame();
        noFrameNoStackError();
        symbolValues();
        specialFormsWhateverBound();
        shapesOfQuote();
        shapesOfIf();
        shapesOfLambda();
        parameters();
        shapesOfDefineAndSet();
        branches();
        definitions();
        assignments();
        noArguments();
        countsOfClosures();
        bindings();
        countsOfPrimitives();
        kindsOfPrimitives();
        comparisons();
        sameValues();
        listsOfAnyNumber();
        noFunctions();
        endOfAForm();
        errors();
        Trial.end();
    }

    private static void about(String sentence) {
        Trial.about("Promise 3 (Terms)", sentence);
    }

    // ---- values

    private static final String RANGE =
            "NUMBERS -268435456 .. 268435455 (results are wrapped: what remains modulo 536870912, in that range)";

    private static void range() {
        about(RANGE);
        gives("+", "268435454", "1", MOST);
        gives("+", MOST, "0", MOST);
        gives("+", MOST, "1", LEAST);
        gives("+", MOST, "2", "-268435455");
        gives("+", MOST, MOST, "-2");
        gives("+", LEAST, "-1", MOST);
        gives("+", LEAST, LEAST, "0");
        gives("+", LEAST, MOST, "-1");
        gives("-", "-268435455", "1", LEAST);
        gives("-", LEAST, "0", LEAST);
        gives("-", LEAST, "1", MOST);
        gives("-", LEAST, "2", "268435454");
        gives("-", MOST, "-1", LEAST);
        gives("-", "0", LEAST, LEAST);
        gives("-", "0", MOST, "-268435455");
        gives("-", "-1", LEAST, MOST);
        gives("-", LEAST, MOST, "1");
        gives("-", MOST, LEAST, "-1");
        gives("-", "1", "1", "0");
    }

    private static void products() {
        about(RANGE);
        gives("*", "16384", "16383", "268419072");
        gives("*", "16384", "16384", LEAST);
        gives("*", "16384", "-16384", LEAST);
        gives("*", "16385", "-16384", "268419072");
        gives("*", "23170", "23170", "-22012");
        gives("*", "23171", "23171", "24329");
        gives("*", "46341", "46341", "4633");
        gives("*", "65536", "65536", "0");
        gives("*", MOST, MOST, "1");
        gives("*", MOST, "-1", "-268435455");
        gives("*", MOST, "2", "-2");
        gives("*", LEAST, "1", LEAST);
        gives("*", LEAST, "-1", LEAST);
        gives("*", LEAST, "2", "0");
        gives("*", LEAST, LEAST, "0");
        gives("*", LEAST, MOST, LEAST);
        gives("*", "0", LEAST, "0");
    }

    private static void gives(String primitive, String one, String other, String result) {
        Trial trial = new Trial(60);
        trial.gives("(" + primitive + " " + one + " " + other + ")", result);
        // A wrapped result is the number itself, not another that looks like it.
        trial.gives("(eq? (" + primitive + " " + one + " " + other + ") " + result + ")", "t");
    }

    private static void globalsAtFirst() {
        about("Symbols have GLOBAL values or none; at first + - * < eq? atom? cons car cdr list have the primitives of "
                + "these names, and t has itself.");
        String[] primitives = {"+", "-", "*", "<", "eq?", "atom?", "cons", "car", "cdr", "list"};
        Trial trial = new Trial(60);
        for (String primitive : primitives) {
            trial.gives(primitive + " ", primitive).gives("(eq? " + primitive + " '" + primitive + ")", "()");
        }
        trial.gives("t ", "t").gives("(eq? t 't)", "t");
        String[] none = {"quote", "if", "lambda", "define", "set!", "new", "T", "Car"};
        for (String symbol : none) {
            trial.fails(symbol + " ", CellLisp.UNBOUND).fails("(set! " + symbol + " 1)", CellLisp.UNBOUND);
        }
        Trial.due("liveCells", trial.lisp.liveCells(), 0);
    }

    // ---- frames

    /**
     * The form is evaluated when there are so many frames. They are IF frames: five of each function that calls
     * the next one as its innermost thing, as more of them would need an eleventh open parenthesis.
     */
    private static Trial within(int frames, String form) {
        Trial trial = new Trial(400);
        trial.gives("(define k (lambda () " + form + "))", "k");
        int left = frames;
        while (left >= 7) {
            trial.gives("(define k ((lambda (k) (lambda () " + nested(5, "(k)") + ")) k))", "k");
            left -= 5;
        }
        return trial.feed(nested(left, "(k)"));
    }

    private static String nested(int ifs, String inner) {
        return "(if ".repeat(ifs) + inner + " 1)".repeat(ifs);
    }

    /** What the form comes to within so many frames, and how many there were at most. */
    private static void isDue(int frames, String form, int answer, int most) {
        Trial trial = within(frames, form);
        int got = CellLisp.MORE;
        int seen = 0;
        for (int i = 0; i < 300 && got == CellLisp.MORE; i++) {
            got = trial.lisp.run(1);
            seen = Math.max(seen, trial.lisp.count(1));
        }
        Trial.due(form + " within " + frames + " frames", got, answer);
        Trial.due("most frames of " + form + " within " + frames, seen, most);
        Trial.due("frames afterwards", trial.lisp.count(1), 0);
        Trial.due("taken of " + form, trial.taken(), answer == CellLisp.DONE ? "1\n" : "");
        if (answer != CellLisp.DONE) {
            // Nothing of the form is left; the next one has all frames again.
            trial.gives("(if (if (if t t) t) 2)", "2");
        }
    }

    private static void mostFrames() {
        about("a STACK of FRAMES (at most 30; each has a kind and three values A, B, C; what is not named is NIL)");
        // A call's own frame is the 30th, and has gone when the body is evaluated.
        isDue(28, "t", CellLisp.DONE, 29);
        isDue(29, "t", CellLisp.DONE, 30);
        isDue(30, "t", CellLisp.STACK, 30);
        isDue(27, "(if (if t t) t)", CellLisp.DONE, 29);
        isDue(28, "(if (if t t) t)", CellLisp.DONE, 30);
        isDue(29, "(if (if t t) t)", CellLisp.STACK, 30);
    }

    private static void the31stFrame() {
        about("A step that would make a 31st frame: error STACK.");
        String[] frames = {"(if 1 2)", "(if 1 2 3)", "(define x 1)", "(set! t 1)", "(list 1)", "((lambda () 1))"};
        for (String form : frames) {
            isDue(28, form, CellLisp.DONE, 29);
            isDue(29, form, CellLisp.DONE, 30);
            isDue(29, "(if " + form + " 1)", CellLisp.STACK, 30);
        }
        // The step does nothing else: neither is x defined nor t another.
        Trial trial = within(29, "(if (define x 1) 1)");
        Trial.due("run", trial.runToEnd(), CellLisp.STACK);
        trial.fails("x ", CellLisp.UNBOUND);
        trial = within(29, "(if (set! t 1) 1)");
        Trial.due("run", trial.runToEnd(), CellLisp.STACK);
        trial.gives("t ", "t");
    }

    private static void noFrameNoStackError() {
        about("A step that would make a 31st frame: error STACK.");
        // Within 30 frames: what makes no frame, or is found wrong before it makes one.
        String[] values = {"5", "t", "car", "'x", "(quote (1))", "(lambda () 1)"};
        for (String form : values) {
            isDue(29, "(if " + form + " 1)", CellLisp.DONE, 30);
        }
        String[] shapes = {"(quote)", "(if)", "(if 1)", "(if 1 2 3 4)", "(lambda)", "(lambda (5) 1)", "(define x)",
            "(define 5 1)", "(set! t)", "(set! 5 1)"};
        for (String form : shapes) {
            isDue(29, "(if " + form + " 1)", CellLisp.FORM, 30);
        }
        isDue(29, "(if undef 1)", CellLisp.UNBOUND, 30);
    }

    // ---- EVAL

    private static void symbolValues() {
        about("Of a symbol: the value of the first binding of it in the environment, else its global one, else error "
                + "UNBOUND.");
        Trial trial = new Trial(200);
        trial.fails("x ", CellLisp.UNBOUND).gives("((lambda (x) x) 1)", "1").fails("x ", CellLisp.UNBOUND);
        trial.gives("(define x 2)", "x").gives("x ", "2").gives("((lambda (x) x) 1)", "1").gives("((lambda (y) x) 1)", "2");
        trial.gives("((lambda (x) ((lambda (x) x) 3)) 1)", "3").gives("((lambda (x) ((lambda (y) x) 3)) 1)", "1");
        trial.gives("((lambda (x x) x) 3 4)", "4").gives("((lambda (x y) x) 3 4)", "3");
        // NIL is a value like others, in a binding and as a global one.
        trial.gives("((lambda (x) x) nil)", "()").gives("(define x nil)", "x").gives("x ", "()");
        trial.gives("((lambda (t) t) nil)", "()").gives("((lambda (car) car) 5)", "5").gives("car ", "car");
    }

    private static void specialFormsWhateverBound() {
        about("Of a pair whose CAR is a symbol of these, no matter what it is bound to:");
        Trial trial = new Trial(200);
        trial.gives("((lambda (if) (if if 1 2)) nil)", "2").gives("((lambda (quote) '5) car)", "5");
        trial.gives("((lambda (lambda) (lambda () 1)) 5)", "<fn>").gives("((lambda (define) (define y 1)) 5)", "y");
        trial.gives("((lambda (set!) (set! y 2)) 5)", "2").gives("(define if list)", "if").gives("(if () 1 2)", "2");
        trial.gives("if ", "list").gives("(define quote 1)", "quote").gives("'x ", "x").gives("((car (list if)) 1 2)", "(1 2)");
        // Another thing than the symbol itself is evaluated like any.
        trial.fails("('if 1 2)", CellLisp.TYPE).fails("((quote quote) 1)", CellLisp.TYPE);
    }

    private static final String SHAPE = "If it has another shape: error FORM.";

    private static void shapesOfQuote() {
        about(SHAPE);
        Trial trial = new Trial(200);
        trial.fails("(quote)", CellLisp.FORM).gives("(quote x)", "x").gives("(quote ())", "()").fails("(quote x y)", CellLisp.FORM);
        trial.fails("(quote x y z)", CellLisp.FORM);
    }

    private static void shapesOfIf() {
        about(SHAPE);
        Trial trial = new Trial(200);
        trial.fails("(if)", CellLisp.FORM).fails("(if t)", CellLisp.FORM).gives("(if t 1)", "1").gives("(if t 1 2)", "1");
        trial.fails("(if t 1 2 3)", CellLisp.FORM).fails("(if t 1 2 3 4)", CellLisp.FORM);
        // The shape is looked at before anything in it is evaluated.
        trial.fails("(if (define x 1))", CellLisp.FORM).fails("x ", CellLisp.UNBOUND);
    }

    private static void shapesOfLambda() {
        about(SHAPE);
        Trial trial = new Trial(200);
        trial.fails("(lambda)", CellLisp.FORM).fails("(lambda ())", CellLisp.FORM).gives("(lambda () 1)", "<fn>");
        trial.fails("(lambda () 1 2)", CellLisp.FORM).fails("(lambda (x) 1 2 3)", CellLisp.FORM);
        trial.gives("(lambda () ())", "<fn>").gives("(lambda () (if))", "<fn>").fails("((lambda () (if)))", CellLisp.FORM);
    }

    private static void parameters() {
        about("RETURN a new closure of the list, x, and the environment; the list has 0 to 4 symbols.");
        Trial trial = new Trial(200);
        trial.gives("(lambda () 1)", "<fn>").gives("(lambda nil 1)", "<fn>").gives("(lambda (a) 1)", "<fn>");
        trial.gives("(lambda (a b c) 1)", "<fn>").gives("(lambda (a b c d) 1)", "<fn>").gives("(lambda (a a a a) 1)", "<fn>");
        // 'a is a list of two symbols, too.
        trial.gives("(lambda 'a 1)", "<fn>").gives("((lambda 'a (list a quote)) 1 2)", "(2 1)");
        String[] others = {"(a b c d e)", "(a b c d a)", "(a b c d e f)", "(a b c d 5)", "(a b c d ())", "a", "t", "5",
            "(5)", "(())", "(nil)", "((a))", "('a)", "'5", "(5 a)", "(a 5)", "(a b c 5)", "(a b c ())", "(a b c nil)", "(5 b c d)"};
        for (String list : others) {
            trial.fails("(lambda " + list + " 1)", CellLisp.FORM);
        }
    }

    private static void shapesOfDefineAndSet() {
        about(SHAPE);
        Trial trial = new Trial(200);
        String[] names = {"define", "set!"};
        for (String name : names) {
            String[] others = {"", " x", " x 1 2", " x 1 2 3", " 5 1", " () 1", " nil 1", " (x) 1", " 'x 1", " (x) (y)"};
            for (String other : others) {
                trial.fails("(" + name + other + ")", CellLisp.FORM);
            }
        }
        trial.fails("x ", CellLisp.UNBOUND).gives("(define x 1)", "x").gives("(set! x 2)", "2").gives("x ", "2");
        // A wrong shape changes nothing.
        trial.fails("(define x 3 4)", CellLisp.FORM).fails("(set! x 3 4)", CellLisp.FORM).gives("x ", "2");
        trial.fails("(define x (define y 1) 2)", CellLisp.FORM).fails("y ", CellLisp.UNBOUND);
    }

    // ---- RETURN

    private static void branches() {
        about("IF: EVAL of the first of A, or, if the value is NIL, of the second (RETURN NIL, if there is none), in B.");
        String[] yes = {"t", "0", "-1", "'x", "'(())", "'(nil)", "car", "(lambda () nil)", "(list nil)", "(eq? 1 1)", "'nill"};
        for (String value : yes) {
            Trial each = new Trial(200);
            each.gives("(if " + value + " 1 2)", "1").gives("(if " + value + " 1)", "1").gives("(if " + value + " () 2)", "()");
        }
        String[] no = {"()", "nil", "'()", "'nil", "(list)", "(cdr '(1))", "(eq? 1 2)", "(if nil 1)"};
        for (String value : no) {
            Trial each = new Trial(200);
            each.gives("(if " + value + " 1 2)", "2").gives("(if " + value + " 1)", "()").gives("(if " + value + " 1 ())", "()");
        }
        Trial trial = new Trial(200);
        // The other branch is not evaluated, and the one that is has the environment of the whole.
        trial.gives("(if t 1 undef)", "1").gives("(if nil undef 2)", "2").gives("(if nil undef)", "()");
        trial.gives("((lambda (x) (if ((lambda (x) x) nil) 1 x)) 7)", "7").gives("((lambda (x) (if ((lambda (x) x) t) x)) 7)", "7");
    }

    private static void definitions() {
        about("DEFINE: A's global value becomes the value; RETURN A.");
        Trial trial = new Trial(200);
        trial.gives("(define x 1)", "x").gives("x ", "1").gives("(define x 2)", "x").gives("x ", "2");
        trial.gives("((lambda (x) (list (define x 3) x)) 9)", "(x 9)").gives("x ", "3").gives("(define t nil)", "t").gives("t ", "()");
        trial.gives("(define if 5)", "if").gives("if ", "5").gives("(define car cdr)", "car").gives("(car '(1 2))", "(2)");
        trial.gives("(define + 5)", "+").gives("+ ", "5").gives("(set! + -)", "-").gives("(+ 3 1)", "2");
        // The value that fails defines nothing.
        trial.fails("(define y undef)", CellLisp.UNBOUND).fails("y ", CellLisp.UNBOUND);
        trial.fails("(define x undef)", CellLisp.UNBOUND).gives("x ", "3");
    }

    private static void assignments() {
        about("SET: the first binding of A in B, else A's global value becomes the value; RETURN the value; error UNBOUND, "
                + "if there is neither.");
        Trial trial = new Trial(200);
        trial.fails("(set! x 1)", CellLisp.UNBOUND).fails("x ", CellLisp.UNBOUND).fails("(set! if 1)", CellLisp.UNBOUND);
        trial.fails("((lambda (y) (set! x 1)) 2)", CellLisp.UNBOUND).fails("x ", CellLisp.UNBOUND);
        trial.gives("(define x nil)", "x").gives("(set! x 1)", "1").gives("x ", "1").gives("(set! t 5)", "5").gives("t ", "5");
        trial.gives("((lambda (x) (list (set! x 2) x)) 9)", "(2 2)").gives("x ", "1");
        trial.gives("((lambda (y) (list (set! x 3) y)) 9)", "(3 9)").gives("x ", "3");
        trial.gives("((lambda (x) (list ((lambda (x) (set! x 4)) 5) x)) 6)", "(4 6)").gives("x ", "3");
        trial.gives("((lambda (x) (list ((lambda (y) (set! x 4)) 5) x)) 6)", "(4 4)").gives("x ", "3");
        trial.gives("((lambda (x x) (list (set! x 8) x)) 1 2)", "(8 8)");
        // A binding of NIL is one, too, and B is the environment of the whole, not that of the value.
        trial.gives("((lambda (z) (list (set! z 2) z)) nil)", "(2 2)").fails("z ", CellLisp.UNBOUND);
        trial.gives("((lambda (x) (list (set! x ((lambda (x) x) 7)) x)) 6)", "(7 7)").gives("x ", "3");
        // That it is unbound is found when the value is there.
        trial.fails("(set! w (define x 4))", CellLisp.UNBOUND).gives("x ", "4").fails("(set! w (car 5))", CellLisp.TYPE);
        trial.gives("(set! w (define w 4))", "w").gives("w ", "w");
    }

    // ---- APPLY

    private static void noArguments() {
        about("If A is a pair, the frame stays with A's CDR as A, and its CAR is EVALed in B; else the frame goes: APPLY.");
        Trial trial = new Trial(60).feed("(list) (list 1) ");
        // Reading, EVAL of the pair and of list, RETURN of list: nothing is left to be evaluated.
        isTraced(trial, new int[] {0, 1, 1, 0, 0});
        // The same, then EVAL and RETURN of 1.
        isTraced(trial, new int[] {0, 1, 1, 1, 1, 0, 0});
        Trial.due("taken", trial.taken(), "()\n(1)\n");
        trial.gives("((lambda () 7))", "7").gives("((lambda (x) (list x ((lambda (x) x) 2) x)) 1)", "(1 2 1)");
    }

    private static void isTraced(Trial trial, int[] frames) {
        for (int i = 0; i < frames.length; i++) {
            Trial.due("run", trial.lisp.run(1), i < frames.length - 1 ? CellLisp.MORE : CellLisp.DONE);
            Trial.due("frames after step " + (i + 1), trial.lisp.count(1), frames[i]);
        }
    }

    private static void countsOfClosures() {
        about("A closure: as many as it has parameters (else error COUNT)");
        String[] parameters = {"", "a", "a b", "a b c", "a b c d"};
        String[] values = {"", " 1", " 1 2", " 1 2 3", " 1 2 3 4", " 1 2 3 4 5"};
        for (int n = 0; n < parameters.length; n++) {
            Trial trial = new Trial(200).gives("(define f (lambda (" + parameters[n] + ") (list " + parameters[n] + ")))", "f");
            for (int given = 0; given < values.length; given++) {
                if (given == n) {
                    trial.gives("(f" + values[n] + ")", n == 0 ? "()" : "(" + values[n].substring(1) + ")");
                } else {
                    trial.fails("(f" + values[given] + ")", CellLisp.COUNT);
                }
            }
        }
        // The values are all evaluated before they are counted, and the body is not.
        Trial trial = new Trial(200).gives("(define f (lambda (a) (define x 1)))", "f");
        trial.fails("(f 1 (define y 2))", CellLisp.COUNT).gives("y ", "2").fails("x ", CellLisp.UNBOUND);
        trial.fails("(f 1 undef)", CellLisp.UNBOUND).fails("(f)", CellLisp.COUNT).fails("x ", CellLisp.UNBOUND);
    }

    private static void bindings() {
        about("the environment is its own with a binding for each parameter before it, the last one's foremost; "
                + "EVAL of its body.");
        Trial trial = new Trial(200);
        trial.gives("((lambda (a a) a) 1 2)", "2").gives("((lambda (a a a a) a) 1 2 3 4)", "4");
        trial.gives("((lambda (a b a) (list a b)) 1 2 3)", "(3 2)").gives("((lambda (a) ((lambda () a))) 1)", "1");
        // Its own environment, not that of the call.
        trial.gives("(define x 1)", "x").gives("(define f (lambda () x))", "f").gives("((lambda (x) (f)) 2)", "1");
        trial.gives("(define g ((lambda (x) (lambda (y) (list x y))) 5))", "g").gives("((lambda (x y) (g 7)) 1 2)", "(5 7)");
    }

    private static final String PRIMITIVES = "wrong numbers of values: error COUNT; wrong kinds: error TYPE.";

    private static void countsOfPrimitives() {
        about(PRIMITIVES);
        Trial trial = new Trial(200);
        String[] ones = {"atom?", "car", "cdr"};
        String[] results = {"()", "1", "(2)"};
        for (int i = 0; i < ones.length; i++) {
            String call = "(" + ones[i];
            trial.fails(call + ")", CellLisp.COUNT).gives(call + " '(1 2))", results[i]);
            trial.fails(call + " '(1 2) 3)", CellLisp.COUNT).fails(call + " '(1 2) 3 4)", CellLisp.COUNT);
            // A wrong number is found before a wrong kind.
            trial.fails(call + " 1 2)", CellLisp.COUNT);
        }
        String[] twos = {"+", "-", "*", "<", "eq?", "cons"};
        String[] others = {"9", "5", "14", "()", "()", "(7 . 2)"};
        for (int i = 0; i < twos.length; i++) {
            String call = "(" + twos[i];
            trial.fails(call + ")", CellLisp.COUNT).fails(call + " 7)", CellLisp.COUNT).gives(call + " 7 2)", others[i]);
            trial.fails(call + " 7 2 1)", CellLisp.COUNT).fails(call + " 7 2 1 0)", CellLisp.COUNT);
            trial.fails(call + " 'x)", CellLisp.COUNT).fails(call + " 'x 'y 'z)", CellLisp.COUNT);
        }
        trial.fails("(car undef 2)", CellLisp.UNBOUND).fails("(car 1 (define x 5))", CellLisp.COUNT).gives("x ", "5");
    }

    private static void kindsOfPrimitives() {
        about(PRIMITIVES);
        String[] noNumbers = {"()", "'x", "t", "'(1)", "car", "(lambda () 1)"};
        String[] numeric = {"+", "-", "*", "<"};
        for (String primitive : numeric) {
            for (String no : noNumbers) {
                Trial each = new Trial(200);
                each.fails("(" + primitive + " 1 " + no + ")", CellLisp.TYPE).fails("(" + primitive + " " + no + " 1)", CellLisp.TYPE);
                each.fails("(" + primitive + " " + no + " " + no + ")", CellLisp.TYPE);
            }
        }
        Trial trial = new Trial(200);
        String[] noPairs = {"()", "nil", "'x", "0", "1", "car", "(lambda () 1)"};
        for (String no : noPairs) {
            trial.fails("(car " + no + ")", CellLisp.TYPE).fails("(cdr " + no + ")", CellLisp.TYPE).gives("(atom? " + no + ")", "t");
        }
        trial.gives("(car '(()))", "()").gives("(cdr '(1))", "()").gives("(car (cons 1 2))", "1").gives("(cdr (cons 1 2))", "2");
        trial.gives("(atom? '(1))", "()").gives("(atom? (cons () ()))", "()").gives("(cons car ())", "(car)");
    }

    private static void comparisons() {
        about("< of two: the symbol t, or NIL");
        String[] rising = {LEAST, "-268435455", "-2", "-1", "0", "1", "2", "268435454", MOST};
        for (int i = 0; i < rising.length; i++) {
            Trial each = new Trial(200);
            for (int j = 0; j < rising.length; j++) {
                each.gives("(< " + rising[i] + " " + rising[j] + ")", i < j ? "t" : "()");
            }
        }
        // The symbol, whatever its global value is.
        Trial trial = new Trial(200);
        trial.gives("(define t 5)", "t").gives("(< 1 2)", "t").gives("(eq? 1 1)", "t").gives("(atom? 1)", "t");
        trial.gives("(eq? (< 1 2) 't)", "t").gives("(eq? (< 1 2) t)", "()");
    }

    private static void sameValues() {
        about("eq? of two values (the same number, symbol, primitive, NIL, or one and the same pair or closure) and atom? "
                + "(no pair): t or NIL");
        String[] values = {"0", "1", "-1", MOST, LEAST, "'x", "'y", "t", "'car", "car", "cdr", "()", "p", "q", "f", "g"};
        for (int i = 0; i < values.length; i++) {
            Trial each = withPairsAndClosures();
            for (int j = 0; j < values.length; j++) {
                each.gives("(eq? " + values[i] + " " + values[j] + ")", i == j ? "t" : "()");
            }
        }
        Trial trial = withPairsAndClosures();
        trial.gives("(eq? (list 1) (list 1))", "()").gives("(eq? (cdr (cons 1 p)) p)", "t").gives("(eq? (cons 1 2) (cons 1 2))", "()");
        trial.gives("(eq? nil (list))", "t").gives("(eq? 't (eq? 1 1))", "t").gives("(eq? " + MOST + " -268435457)", "t");
        trial.gives("((lambda (x y) (eq? x y)) p p)", "t").gives("((lambda (x) (eq? x f)) f)", "t");
    }

    /** Two of each that look the same. */
    private static Trial withPairsAndClosures() {
        Trial trial = new Trial(200).gives("(define p '(1))", "p").gives("(define q '(1))", "q");
        return trial.gives("(define f (lambda () 1))", "f").gives("(define g (lambda () 1))", "g");
    }

    private static void listsOfAnyNumber() {
        about("list of any number: RETURN what it gives");
        for (int n = 0; n <= 40; n++) {
            String things = " 1".repeat(n);
            new Trial(400).gives("(list" + things + ")", n == 0 ? "()" : "(" + things.substring(1) + ")");
        }
        // As many as a text has place for, which is full with them.
        Trial trial = new Trial(400).gives("(define a (list" + " 1".repeat(51) + " ))", "a");
        Trial.due("text", trial.lisp.count(0), 0);
        Trial.due("liveCells", trial.lisp.liveCells(), 102);
        trial.gives("(define l list)", "l").gives("(l)", "()").gives("(car (l 'x ()))", "x");
    }

    private static void noFunctions() {
        about("Something else: error TYPE.");
        Trial trial = new Trial(200);
        String[] others = {"5", "()", "nil", "'x", "'car", "t", "'(car)", "'(lambda () 1)", "(list car)", "(car '(car))"};
        for (String other : others) {
            trial.fails("(" + other + ")", CellLisp.TYPE).fails("(" + other + " 1)", CellLisp.TYPE).fails("(" + other + " 1 2)", CellLisp.TYPE);
        }
        trial.fails("(5 undef)", CellLisp.UNBOUND).fails("(5 (define x 1))", CellLisp.TYPE).gives("x ", "1");
    }

    // ---- the end of a form

    private static void endOfAForm() {
        about("RETURN of a value, with no frame: it is PRINTED, a 10 behind it, and the form is done (VALUE and environment "
                + "are NIL then, too).");
        Trial trial = new Trial(60).feed("((lambda (x) x) '(1 2)) ");
        for (int i = 1; i < 8; i++) {
            Trial.due("outSize", trial.lisp.outSize(), 0);
            Trial.due("run", trial.lisp.run(1), CellLisp.MORE);
            Trial.due("cells are in use after step " + i, trial.lisp.liveCells() > 0, true);
        }
        Trial.due("run", trial.lisp.run(1), CellLisp.DONE);
        Trial.due("liveCells", trial.lisp.liveCells(), 0);
        Trial.due("taken", trial.taken(), "(1 2)\n");
        Trial.due("run", trial.lisp.run(1), CellLisp.NONE);
    }

    private static void errors() {
        about("An error ends the form: VALUE and environment are NIL, the stack is empty.");
        String[] inner = {"undef", "(if)", "(car)", "(car 1)", "(car 1 2)", "(5)", "(set! undef 1)", "((lambda (x) x))"};
        int[] due = {CellLisp.UNBOUND, CellLisp.FORM, CellLisp.COUNT, CellLisp.TYPE, CellLisp.COUNT, CellLisp.TYPE,
            CellLisp.UNBOUND, CellLisp.COUNT};
        for (int i = 0; i < inner.length; i++) {
            Trial trial = new Trial(200).gives("(define a '(1 2))", "a").gives("(define x 3)", "x");
            int symbols = trial.lisp.count(2);
            String text = "((lambda (x y) (if (list x (set! y (list y " + inner[i] + "))) 1)) '(4 5) (list 6)) x ";
            trial.feed(text);
            // By its 20th step there are frames IF, ARGUMENTS, SET and ARGUMENTS.
            Trial.due("run of " + text, trial.lisp.run(20), CellLisp.MORE);
            Trial.due("frames of " + text, trial.lisp.count(1), 4);
            Trial.due("run of " + text, trial.runToEnd(), due[i]);
            Trial.due("frames", trial.lisp.count(1), 0);
            Trial.due("liveCells", trial.lisp.liveCells(), 4);
            Trial.due("text", trial.lisp.count(0), 3);
            Trial.due("outSize", trial.lisp.outSize(), 0);
            Trial.due("symbols", trial.lisp.count(2), symbols + (inner[i].contains("undef") ? 2 : 1));
            // The next form is evaluated without what the failed one has bound.
            trial.gives("", "3").gives("a ", "(1 2)").fails("y ", CellLisp.UNBOUND);
        }
    }
}
