/** Promise 3: the first step of a form, by which it is taken out of the text. */
public final class ReadingTest {
    public static void main(String[] args) {
        takesCompleteFormsAlone();
        readsNumbers();
        readsSymbols();
        readsLists();
        findsSyntaxErrors();
        learnsSymbols();
        asksForCells();
        Trial.end();
    }

    private static void isNone(String text) {
        Trial trial = new Trial(100).feed(text);
        Trial.due("run of " + text, trial.lisp.run(1000), CellLisp.NONE);
        Trial.due("text of " + text, trial.lisp.count(0), text.length());
        Trial.due("steps of " + text, trial.lisp.count(3), 0);
        Trial.due("symbols of " + text, trial.lisp.count(2), 16);
        Trial.due("cells of " + text, trial.lisp.liveCells(), 0);
    }

    private static void takesCompleteFormsAlone() {
        isNone("");
        isNone(" ");
        isNone(" \n  \n");
        isNone("12");
        isNone("abc");
        isNone("  abc");
        isNone("(");
        isNone("(car x");
        isNone("(car x ");
        isNone("(car (x)");
        isNone("'");
        isNone("' ");
        isNone("'x");
        isNone("'(x");
        isNone("(x '");
        isNone("(".repeat(10));
        isNone("'(".repeat(10) + "'");
        takes("12 ", 1, "12");
        takes("12\n", 1, "12");
        takes("12(", 1, "12");
        takes("12)", 1, "12");
        takes("12'", 1, "12");
        takes(" \n 12 13 ", 4, "12");
        takes("()", 0, "()");
        takes("\n\n()(", 1, "()");
        takes("'x ", 1, "x");
        takes("'x)", 1, "x");
        takes("'()x", 1, "()");
        takes("(+ 1 2)3 ", 2, "3");
        takes("(+ 1 2)))", 2, "3");
    }

    private static void takes(String text, int left, String printed) {
        Trial trial = new Trial(100).feed(text);
        Trial.due("run of " + text, trial.lisp.run(1), CellLisp.MORE);
        Trial.due("steps of " + text, trial.lisp.count(3), 1);
        Trial.due("text after " + text, trial.lisp.count(0), left);
        Trial.due("run of " + text, trial.lisp.run(1000), CellLisp.DONE);
        Trial.due("print of " + text, trial.taken(), printed + "\n");
        Trial.due("text after " + text, trial.lisp.count(0), left);
    }

    private static void readsNumbers() {
        Trial trial = new Trial(100);
        trial.gives("0 ", "0").gives("-0 ", "0").gives("007 ", "7").gives("-1 ", "-1");
        trial.gives("268435455 ", "268435455").gives("268435456 ", "-268435456");
        trial.gives("-268435456 ", "-268435456").gives("-268435457 ", "268435455");
        trial.gives("536870912 ", "0").gives("536870911 ", "-1").gives("-536870913 ", "-1");
        // 999999999 - 2 * 536870912 = -73741825
        trial.gives("999999999 ", "-73741825").gives("-999999999 ", "73741825");
        trial.gives("100000000 ", "100000000").gives("10 ", "10").gives("-90 ", "-90");
        trial.gives("'1000000000 ", "10000000").gives("'-1234567890 ", "-1234567");
        Trial.due("symbols", trial.lisp.count(2), 18);
        trial.fails("1000000000 ", CellLisp.UNBOUND).fails("10000000x ", CellLisp.UNBOUND);
        trial.gives("(eq? '1000000000 '10000000x) ", "t").gives("(eq? '1000000000 10000000) ", "()");
        trial.gives("'- ", "-").gives("'+1 ", "+1").gives("'--1 ", "--1").gives("'1- ", "1-").gives("'1.5 ", "1.5");
    }

    private static void readsSymbols() {
        Trial trial = new Trial(100);
        trial.gives("'abcdefgh ", "abcdefgh").gives("'abcdefghi ", "abcdefgh").gives("'abcdefg ", "abcdefg");
        Trial.due("symbols", trial.lisp.count(2), 18);
        trial.gives("(eq? 'abcdefghi 'abcdefghij) ", "t").gives("(eq? 'abcdefgh 'abcdefg) ", "()");
        trial.gives("'~!\"#$%&* ", "~!\"#$%&*").gives("'A ", "A").gives("(eq? 'a 'A) ", "()");
        trial.gives("nil ", "()").gives("'nil ", "()").gives("(eq? nil ()) ", "t").gives("'Nil ", "Nil");
        trial.gives("'nill ", "nill").gives("'ni ", "ni").gives("'. ", ".");
        trial.gives("'(a . b) ", "(a . b)").gives("(car (cdr '(a . b))) ", ".");
    }

    private static void readsLists() {
        Trial trial = new Trial(200);
        trial.gives("'(1 (2 3) () nil ((4))) ", "(1 (2 3) () () ((4)))");
        trial.gives("' \n ( 1\n2 ) ", "(1 2)").gives("'(a'b(c)'(d)) ", "(a (quote b) (c) (quote (d)))");
        trial.gives("'('()) ", "((quote ()))");
        trial.gives("(car '('x)) ", "(quote x)").gives("(cdr '(1 'x)) ", "((quote x))");
        String deep = "(".repeat(10) + "1" + ")".repeat(10);
        trial.gives("'" + deep + " ", deep);
        trial.gives("'(()()()()()()()()()()()()) ", "(() () () () () () () () () () () ())");
    }

    /** The error takes all up to the fault; what is left is looked at by what it prints next. */
    private static void isFault(String text, int left) {
        Trial trial = new Trial(100).feed(text);
        Trial.due("run of " + text, trial.lisp.run(1), CellLisp.SYNTAX);
        Trial.due("text after " + text, trial.lisp.count(0), left);
        Trial.due("steps of " + text, trial.lisp.count(3), 1);
        Trial.due("frames of " + text, trial.lisp.count(1), 0);
        Trial.due("symbols of " + text, trial.lisp.count(2), 16);
        Trial.due("cells of " + text, trial.lisp.liveCells(), 0);
        Trial.due("print of " + text, trial.taken(), "");
    }

    private static void findsSyntaxErrors() {
        isFault(")", 0);
        isFault(" \n ) ", 1);
        isFault("))", 1);
        isFault("')", 0);
        isFault("' )1", 1);
        isFault("''", 0);
        isFault("''x ", 2);
        isFault("' \n 'x", 1);
        isFault("(x ')", 0);
        isFault("(x '\n) y)", 3);
        isFault("(x '' y) ", 4);
        isFault("(".repeat(11), 0);
        isFault("(".repeat(11) + " x", 2);
        isFault("'(".repeat(11), 0);
        isFault("(".repeat(10) + ") (( 1", 2);
        isFault("(new (two ') (three) ", 9);
        Trial trial = new Trial(100).feed("1 ) 2 '' 3 ");
        Trial.due("run", trial.lisp.run(9), CellLisp.DONE);
        Trial.due("run", trial.lisp.run(9), CellLisp.SYNTAX);
        Trial.due("run", trial.lisp.run(9), CellLisp.DONE);
        Trial.due("run", trial.lisp.run(9), CellLisp.SYNTAX);
        Trial.due("run", trial.lisp.run(9), CellLisp.DONE);
        Trial.due("run", trial.lisp.run(9), CellLisp.NONE);
        Trial.due("taken", trial.taken(), "1\n2\n3\n");
    }

    private static void learnsSymbols() {
        Trial trial = new Trial(400);
        trial.gives("'(a1 a2 a3 a4 a5 a6 a7 a8 a1 a2 car t quote) ", "(a1 a2 a3 a4 a5 a6 a7 a8 a1 a2 car t quote)");
        Trial.due("symbols", trial.lisp.count(2), 24);
        trial.gives("(quote (b1 b2 b3 b4 b5 b6 b7 b8)) ", "(b1 b2 b3 b4 b5 b6 b7 b8)");
        trial.gives("(quote (c1 c2 c3 c4 c5 c6)) ", "(c1 c2 c3 c4 c5 c6)");
        Trial.due("symbols", trial.lisp.count(2), 38);
        trial.feed("(d1 (a1 nil 5) d2 d3 d4) 9 ");
        Trial.due("run", trial.lisp.run(1), CellLisp.SYMBOLS);
        Trial.due("text", trial.lisp.count(0), 3);
        Trial.due("steps", trial.lisp.count(3), 1);
        Trial.due("symbols", trial.lisp.count(2), 40);
        Trial.due("cells", trial.lisp.liveCells(), 0);
        trial.gives("", "9");
        trial.gives("'(d1 d2) ", "(d1 d2)").fails("'d3 ", CellLisp.SYMBOLS).fails("d4 ", CellLisp.SYMBOLS);
        trial.fails("'c6extra ", CellLisp.SYMBOLS).gives("'nil ", "()").gives("'-12 ", "-12");
        isNoneAfterAll(trial);
    }

    /** An incomplete form makes no symbol known. */
    private static void isNoneAfterAll(Trial trial) {
        trial.feed("(unknown ");
        Trial.due("run", trial.lisp.run(1), CellLisp.NONE);
        trial.feed(")");
        Trial.due("run", trial.lisp.run(1), CellLisp.SYMBOLS);
    }

    private static void asksForCells() {
        Trial trial = new Trial(20).feed("(a b 3 4 5 6 7 8 9 10) ");
        Trial.due("10 pairs", trial.lisp.run(1), CellLisp.MORE);
        Trial.due("cells", trial.lisp.liveCells(), 20);
        Trial.due("a is unbound", trial.runToEnd(), CellLisp.UNBOUND);
        trial.feed("(c 2 3 4 5 6 7 8 9 'd) 5 ");
        Trial.due("12 pairs", trial.lisp.run(1), CellLisp.ROOM);
        Trial.due("text", trial.lisp.count(0), 3);
        Trial.due("steps", trial.lisp.count(3), 1);
        Trial.due("symbols", trial.lisp.count(2), 20);
        Trial.due("cells", trial.lisp.liveCells(), 0);
        trial.gives("", "5");
        trial.feed("'('1 () (nil '3)) ");
        Trial.due("11 pairs", trial.lisp.run(1), CellLisp.ROOM);
        trial.feed("'('1 () (nil 3)) ");
        Trial.due("9 pairs", trial.lisp.run(1), CellLisp.MORE);
        Trial.due("cells", trial.lisp.liveCells(), 18);
    }
}
