/** The boundary cases of the text and of reading, which the Terms name and the promises 2 and 3 show. */
public final class TextBoundaryTest {
    /** With these, 39 symbols are known. */
    private static final String NAMES = "a1 a2 a3 a4 a5 a6 a7 a8 a9 b1 b2 b3 b4 b5 b6 b7 b8 b9 c1 c2 c3 c4 c5";

    public static void main(String[] args) {
        textCharacters();
        textLength();
        blanksSignsAndWords();
        forms();
        numbersByDigits();
        numbersByRange();
        symbolLength();
        nil();
        sameSymbols();
        completeForms();
        symbolsAtFirst();
        mostSymbols();
        blanksBefore();
        faultAtTheBeginning();
        faultBehindQuote();
        faultOfTheEleventh();
        faultOfAnIncompleteForm();
        oneSymbolTooMany();
        Trial.end();
    }

    // ---- characters, words, forms

    private static void textCharacters() {
        Trial.about("Promise 2 (Terms)", "TEXT is at most 120 characters that wait, each 10 or 32 .. 126.");
        for (int c = 0; c < 256; c++) {
            boolean due = c == 10 || (c >= 32 && c <= 126);
            Trial trial = new Trial(20);
            Trial.due("feed of " + c, trial.lisp.feed(c, 1), due);
            Trial.due("text", trial.lisp.count(0), due ? 1 : 0);
        }
    }

    private static void textLength() {
        Trial.about("Promise 2 (Terms)", "TEXT is at most 120 characters that wait, each 10 or 32 .. 126.");
        for (int length = 118; length <= 120; length++) {
            // The first and the last character of a full text are read like any others.
            String text = "'(1" + " ".repeat(length - 5) + "2)";
            Trial trial = new Trial(20).feed(text);
            Trial.due("text", trial.lisp.count(0), length);
            Trial.due("one more", trial.lisp.feed('x', 1), length < 120);
            Trial.due("text", trial.lisp.count(0), Math.min(length + 1, 120));
            trial.gives("", "(1 2)");
            Trial.due("text", trial.lisp.count(0), length < 120 ? 1 : 0);
        }
    }

    private static void blanksSignsAndWords() {
        Trial.about("Promise 3 (Terms)",
                "BLANKS are 10 and 32, SIGNS are ( ) and ' ; a WORD is as many other characters as stand together.");
        for (int c = 10; c <= 126; c = c == 10 ? 32 : c + 1) {
            boolean ofWord = " \n()'".indexOf(c) < 0;
            Trial trial = new Trial(60).feed("'a").feed(Character.toString(c)).feed("b ");
            Trial.due("run", trial.runToEnd(), CellLisp.DONE);
            Trial.due("taken with " + c, trial.taken(), ofWord ? "a" + (char) c + "b\n" : "a\n");
            Trial.due("text", trial.lisp.count(0), ofWord ? 1 : 3);
            if (ofWord) {
                // Alone, and at a word's beginning and end.
                String one = Character.toString(c);
                trial.gives("(list '" + one + " 'b" + one + " '" + one + "b)", "(" + one + " b" + one + " " + one + "b)");
            }
        }
        Trial trial = new Trial(100);
        trial.gives("'(a\nb \n c)", "(a b c)").gives("'(a(b)c'd)", "(a (b) c (quote d))");
    }

    private static void forms() {
        Trial.about("Promise 3 (Terms)", "A FORM: a word; ( , forms, ) ; or ' and a form, which is (quote form).");
        Trial trial = new Trial(100);
        trial.gives("5 ", "5").gives("()", "()").gives("( \n )", "()").gives("'(a)", "(a)").gives("'(a b)", "(a b)");
        trial.gives("'5 ", "5").gives("'()", "()").gives("'x ", "x").gives("(quote x)", "x");
        trial.gives("(car '('x))", "(quote x)").gives("(car '('(x)))", "(quote (x))").gives("(car '('()))", "(quote ())");
    }

    // ---- numbers

    private static void numbersByDigits() {
        Trial.about("Promise 3 (Terms)", "A word is a NUMBER if it is 1 to 9 digits, perhaps with - before; "
                + "its value is wrapped to 29 bits (as sums are, below).");
        isNumber("0", "0");
        isNumber("9", "9");
        isNumber("-0", "0");
        isNumber("-1", "-1");
        isNumber("-9", "-9");
        isNumber("00", "0");
        isNumber("12345678", "12345678");
        isNumber("-12345678", "-12345678");
        isNumber("123456789", "123456789");
        isNumber("-123456789", "-123456789");
        isNumber("000000000", "0");
        isNumber("000000007", "7");
        isNumber("-000000007", "-7");
        String[] symbols = {"0000000007", "-0000000007", "1234567890", "-1234567890", "1".repeat(20), "-0x", "--", "--1",
            "-1-", "1-", "1-1", "+1", "1+", "1.5", ".5", "5.", "/1", "1/", ":1", "1:", "1a", "a1", "12345678a", "-a"};
        for (String symbol : symbols) {
            isSymbol(symbol);
        }
        // A - without a digit is the symbol of the primitive.
        Trial trial = new Trial(20).gives("- ", "-").gives("(- 7 2)", "5");
        Trial.due("symbols", trial.lisp.count(2), 16);
    }

    private static void isNumber(String word, String printed) {
        Trial trial = new Trial(60).gives(word + " ", printed).gives("'" + word + " ", printed);
        trial.gives("(eq? (+ 0 " + word + ") " + printed + ")", "t");
        Trial.due("symbols with " + word, trial.lisp.count(2), 16);
    }

    private static void isSymbol(String word) {
        Trial trial = new Trial(60).gives("'" + word + " ", word.substring(0, Math.min(8, word.length())));
        Trial.due("symbols with " + word, trial.lisp.count(2), 17);
        trial.fails(word + " ", CellLisp.UNBOUND).fails("(+ 0 '" + word + ")", CellLisp.TYPE);
    }

    private static void numbersByRange() {
        Trial.about("Promise 3 (Terms)", "A word is a NUMBER if it is 1 to 9 digits, perhaps with - before; "
                + "its value is wrapped to 29 bits (as sums are, below).");
        isNumber("268435454", "268435454");
        isNumber("268435455", "268435455");
        isNumber("268435456", "-268435456");
        isNumber("268435457", "-268435455");
        isNumber("-268435455", "-268435455");
        isNumber("-268435456", "-268435456");
        isNumber("-268435457", "268435455");
        isNumber("536870911", "-1");
        isNumber("536870912", "0");
        isNumber("536870913", "1");
        isNumber("-536870911", "1");
        isNumber("-536870912", "0");
        isNumber("-536870913", "-1");
        isNumber("805306367", "268435455");
        isNumber("805306368", "-268435456");
        // 2 * 536870912 = 1073741824 is 73741825 above the longest number.
        isNumber("999999999", "-73741825");
        isNumber("-999999999", "73741825");
    }

    // ---- symbols

    private static void symbolLength() {
        Trial.about("Promise 3 (Terms)", "Other words are SYMBOLS, of at most 8 characters (the rest of a word is cut off)");
        Trial trial = new Trial(100);
        trial.gives("'a ", "a").gives("'abcdefg ", "abcdefg").gives("'abcdefgh ", "abcdefgh");
        Trial.due("symbols", trial.lisp.count(2), 19);
        trial.gives("'abcdefghi ", "abcdefgh").gives("'abcdefghij ", "abcdefgh").gives("'abcdefgh12345678 ", "abcdefgh");
        trial.gives("(eq? 'abcdefgh 'abcdefghi)", "t").gives("(eq? 'abcdefghX 'abcdefghY)", "t");
        trial.gives("(eq? 'abcdefg 'abcdefgh)", "()").gives("(define abcdefghX 5)", "abcdefgh").gives("abcdefghY ", "5");
        Trial.due("symbols", trial.lisp.count(2), 19);
        Trial longest = new Trial(20).gives("'" + "z".repeat(118) + " ", "zzzzzzzz");
        Trial.due("symbols", longest.lisp.count(2), 17);
        longest.gives("(eq? 'zzzzzzz 'zzzzzzzz)", "()").gives("(eq? 'zzzzzzzz 'zzzzzzzzz)", "t");
        Trial.due("symbols", longest.lisp.count(2), 18);
    }

    private static void nil() {
        Trial.about("Promise 3 (Terms)", "nil is the empty list, as () is.");
        Trial trial = new Trial(100);
        trial.gives("nil ", "()").gives("()", "()").gives("'nil ", "()").gives("(eq? nil ())", "t").gives("(eq? 'nil '())", "t");
        trial.gives("(list nil)", "(())").gives("'(nil . nil)", "(() . ())").gives("(if nil 1 2)", "2");
        trial.fails("(define nil 1)", CellLisp.FORM).fails("(lambda (nil) 1)", CellLisp.FORM).fails("(nil)", CellLisp.TYPE);
        Trial.due("symbols", trial.lisp.count(2), 17);
        trial.gives("(list 'ni 'nill 'Nil 'il '-nil)", "(ni nill Nil il -nil)");
        Trial.due("symbols", trial.lisp.count(2), 22);
    }

    private static void sameSymbols() {
        Trial.about("Promise 3 (Terms)", "Symbols are the same if their characters are.");
        Trial trial = new Trial(100);
        trial.gives("(eq? 'x 'x)", "t").gives("(eq? 'x 'X)", "()").gives("(eq? 'xa 'xb)", "()").gives("(eq? 'ax 'bx)", "()");
        trial.gives("(eq? 'abcdefgh 'abcdefgh)", "t").gives("(eq? 'abcdefgh 'abcdefgH)", "()");
        trial.gives("(eq? 'abcdefgh 'Abcdefgh)", "()").gives("(eq? 'abcd 'abcdabcd)", "()").gives("(eq? 'x 'xx)", "()");
        // x X xa xb ax bx abcdefgh abcdefgH Abcdefgh abcd abcdabcd xx
        Trial.due("symbols", trial.lisp.count(2), 28);
    }

    private static void completeForms() {
        Trial.about("Promise 3 (Terms)",
                "The next form is COMPLETE if it ends in the text: a word when something that is not of it follows.");
        String[] forms = {"5", "car", "-", "()", "'x", "'5", "'(x)", "(list 1)", "(list 'x)", "(list '(1 (2)))"};
        for (String form : forms) {
            boolean endsByItself = form.endsWith(")");
            for (int length = 0; length < form.length(); length++) {
                isNone(form.substring(0, length));
                isNone("\n " + form.substring(0, length));
            }
            if (endsByItself) {
                isTaken(form, 0);
                isTaken(form + "x", 1);
            } else {
                isNone(form);
            }
            String[] behind = {" ", "\n", "(", ")", "'"};
            for (String sign : behind) {
                isTaken(form + sign, 1);
            }
        }
    }

    private static void isNone(String text) {
        Trial trial = new Trial(60).feed(text);
        Trial.due("run of " + text, trial.lisp.run(1000), CellLisp.NONE);
        Trial.due("text of " + text, trial.lisp.count(0), text.length());
        Trial.due("symbols of " + text, trial.lisp.count(2), 16);
    }

    private static void isTaken(String text, int left) {
        Trial trial = new Trial(60).feed(text);
        Trial.due("run of " + text, trial.lisp.run(1), CellLisp.MORE);
        Trial.due("text of " + text, trial.lisp.count(0), left);
        Trial.due("run of " + text, trial.lisp.run(1000), CellLisp.DONE);
        Trial.due("text of " + text, trial.lisp.count(0), left);
    }

    private static void symbolsAtFirst() {
        Trial.about("Promise 3 (Terms)", "At most 40 different symbols are known, at first 16: those of primitives and "
                + "special forms, and t.");
        Trial trial = new Trial(100);
        Trial.due("symbols", trial.lisp.count(2), 16);
        trial.gives("'(+ - * < eq? atom? cons car cdr list)", "(+ - * < eq? atom? cons car cdr list)");
        trial.gives("'(quote if lambda define set! t)", "(quote if lambda define set! t)").gives("'t ", "t");
        Trial.due("symbols", trial.lisp.count(2), 16);
        trial.gives("'(T Car sets define! atom eq)", "(T Car sets define! atom eq)");
        Trial.due("symbols", trial.lisp.count(2), 22);
    }

    private static void mostSymbols() {
        Trial.about("Promise 3 (Terms)", "At most 40 different symbols are known, at first 16: those of primitives and "
                + "special forms, and t.");
        Trial trial = new Trial(200).gives("'(" + NAMES + ")", "(" + NAMES + ")");
        Trial.due("symbols", trial.lisp.count(2), 39);
        trial.gives("(define forty 40)", "forty");
        Trial.due("symbols", trial.lisp.count(2), 40);
        trial.fails("'another ", CellLisp.SYMBOLS).fails("another ", CellLisp.SYMBOLS);
        Trial.due("symbols", trial.lisp.count(2), 40);
        // The first, the 17th, the 39th and the 40th are the same as before.
        trial.gives("'(+ a1 c5 forty t)", "(+ a1 c5 forty t)").gives("forty ", "40").gives("(+ 1 2)", "3");
        trial.gives("'(nil 123456789 ())", "(() 123456789 ())");
        Trial.due("symbols", trial.lisp.count(2), 40);
    }

    // ---- reading

    private static void blanksBefore() {
        Trial.about("Promise 3 (Terms)", "the next complete form is taken out of the text with the blanks before it");
        String[] before = {"", " ", "\n", " \n", "\n\n  \n", " ".repeat(110)};
        String[] behind = {"", " ", "\n", " \n ", "   x"};
        for (String blanks : before) {
            for (String rest : behind) {
                isTaken(blanks + "(list)" + rest, rest.length());
                isTaken(blanks + "'x " + rest, rest.length() + 1);
            }
        }
    }

    private static void isFault(String text, int left) {
        Trial trial = new Trial(60).feed(text);
        Trial.due("run of " + text, trial.lisp.run(1000), CellLisp.SYNTAX);
        Trial.due("text of " + text, trial.lisp.count(0), left);
        Trial.due("symbols of " + text, trial.lisp.count(2), 16);
        Trial.due("liveCells of " + text, trial.lisp.liveCells(), 0);
        Trial.due("frames of " + text, trial.lisp.count(1), 0);
        Trial.due("outSize of " + text, trial.lisp.outSize(), 0);
        if (left == 0) {
            trial.gives("7 ", "7");
        }
    }

    private static final String FAULT = "(If the text begins, behind blanks, with ) , or if in the form a ' stands before "
            + "a ) or another ' , blanks between or not, or a ( would be the eleventh that is open, all up to this one is "
            + "taken out: error SYNTAX; of a form that is not complete yet, too.";

    private static void faultAtTheBeginning() {
        Trial.about("Promise 3 (Terms)", FAULT);
        isFault(")", 0);
        isFault(" )", 0);
        isFault("\n \n)", 0);
        isFault(" ".repeat(119) + ")", 0);
        isFault(") ", 1);
        isFault("))", 1);
        isFault(")(", 1);
        isFault(")x", 1);
        isFault(" )5 ", 2);
        isTaken("5)", 1);
        isTaken("())", 1);
        isTaken("(list))", 1);
    }

    private static void faultBehindQuote() {
        Trial.about("Promise 3 (Terms)", FAULT);
        String[] between = {"", " ", "\n", " \n ", " ".repeat(90)};
        for (String blanks : between) {
            isFault("'" + blanks + ")", 0);
            isFault("'" + blanks + "'", 0);
            isFault(" '" + blanks + ") ", 1);
            isFault("\n'" + blanks + "'x ", 2);
            isFault("(list '" + blanks + ")", 0);
            isFault("(list '" + blanks + "'x) ", 3);
            isFault("(list (1) '(x '" + blanks + ") y) ", 4);
            isTaken("'" + blanks + "()", 0);
            isTaken("'" + blanks + "x ", 1);
            isTaken("(list '" + blanks + "(1))", 0);
        }
        // One that has its form already, and one of an inner form.
        isTaken("(list 'x)", 0);
        isTaken("(list 'x'y)", 0);
        isTaken("(list '()'())", 0);
        isTaken("'('x)", 0);
        isTaken("'x'", 1);
        isTaken("'x)", 1);
    }

    private static void faultOfTheEleventh() {
        Trial.about("Promise 3 (Terms)", FAULT);
        isFault("(".repeat(11), 0);
        isFault("(".repeat(12), 1);
        isFault(" " + "( ".repeat(11), 1);
        isFault("'" + "(".repeat(11) + ")", 1);
        isFault("'(".repeat(11), 0);
        isFault("(".repeat(10) + ")(( ", 1);
        isFault("(() ".repeat(9) + "( (x", 1);
        isFault("(() ".repeat(10), 2);
        isNone("(".repeat(9));
        isNone("(".repeat(10));
        isNone("'(".repeat(10));
        isNone("(() ".repeat(9) + "()");
        isNone("(".repeat(10) + ")(");
        isTaken("'" + "(".repeat(9) + ")".repeat(9), 0);
        isTaken("'" + "(".repeat(10) + ")".repeat(10), 0);
        isTaken("'" + "(".repeat(10) + ")()()" + ")".repeat(9), 0);
        // Those that are closed do not count.
        isTaken("'(" + "()".repeat(20) + ")", 0);
    }

    private static void faultOfAnIncompleteForm() {
        Trial.about("Promise 3 (Terms)", FAULT);
        isFault("(new (other ')", 0);
        isFault("(new (other '' more", 5);
        isFault("(new (other '\n' ", 1);
        isFault("(new" + "(".repeat(10) + "more", 4);
        // The first fault of all, also before one that stands nearer to the text's end.
        isFault("(new ') '' x", 5);
        isFault("(new '')", 1);
        // A fault behind a complete form is found when that form is gone.
        Trial trial = new Trial(60).feed("5 ) '' 6 ");
        int[] answers = {CellLisp.DONE, CellLisp.SYNTAX, CellLisp.SYNTAX, CellLisp.DONE, CellLisp.NONE};
        int[] left = {8, 6, 3, 1, 1};
        for (int i = 0; i < answers.length; i++) {
            Trial.due("run", trial.lisp.run(1000), answers[i]);
            Trial.due("text", trial.lisp.count(0), left[i]);
        }
        Trial.due("taken", trial.taken(), "5\n6\n");
    }

    private static void oneSymbolTooMany() {
        Trial.about("Promise 3 (Terms)", "If it needs a 41st symbol: the form is taken out: error SYMBOLS, the symbols "
                + "before it being known then.)");
        Trial trial = new Trial(200).gives("'(" + NAMES + ")", "(" + NAMES + ")");
        // The 40th symbol alone, known or not, is none too many.
        trial.feed(" \n(forty (1 nil car) other forty last) 7 ");
        Trial.due("symbols", trial.lisp.count(2), 39);
        Trial.due("run", trial.lisp.run(1000), CellLisp.SYMBOLS);
        Trial.due("text", trial.lisp.count(0), 3);
        Trial.due("symbols", trial.lisp.count(2), 40);
        Trial.due("frames", trial.lisp.count(1), 0);
        Trial.due("liveCells", trial.lisp.liveCells(), 0);
        Trial.due("outSize", trial.lisp.outSize(), 0);
        trial.gives("", "7").gives("'forty ", "forty").fails("'other ", CellLisp.SYMBOLS).fails("last ", CellLisp.SYMBOLS);
        // A form that is not complete needs none yet, and one with a fault none at all.
        trial.feed("(other");
        Trial.due("run", trial.lisp.run(1000), CellLisp.NONE);
        trial.feed(" '");
        Trial.due("run", trial.lisp.run(1000), CellLisp.NONE);
        trial.feed(")");
        Trial.due("run", trial.lisp.run(1000), CellLisp.SYNTAX);
        // The symbol that is too many is found before the cells that are.
        trial.gives("(define a1 '(1" + " 1".repeat(48) + "))", "a1").fails("'(1" + " 1".repeat(53) + ")", CellLisp.ROOM);
        trial.fails("'(1" + " 1".repeat(53) + " x)", CellLisp.SYMBOLS);
        Trial.due("symbols", trial.lisp.count(2), 40);
    }
}
