import java.util.Random;

/** Compares every answer of many runs of calls with the answers of the model; the seeds are fixed. */
public final class ModelTest {
    /** The document promises nothing of an object behind these. */
    private static final int MOST_CALLS = 512;
    /** A turn needs no more: pieces of text, or what waits to be taken, and what is asked behind them. */
    private static final int MOST_OF_A_TURN = 45;
    private static final int[] SIZES = {-5, 20, 25, 41, 60, 80, 101, 120, 150, 200, 250, 300, 350, 400, 400, 500};
    private static final String[] NAMES = {"a", "b", "x", "y", "a", "b", "x", "y", "f", "g", "t", "nil", "car", "if"};
    private static final String F = "(define f (lambda (x) (if (< x 1) y (cons x (f (- x 1)))))) ";
    private static final String G = "(define g (lambda (x y) (if x (g (cdr x) (cons (car x) y)) y))) ";
    private static final String FIRST_TEXT = "(define a 1) (define b '(2 3)) (define x a) (define y b) " + F + G;

    private final Random random;
    private final int seed;
    private final CellLisp lisp;
    private final Model model;
    private final StringBuilder text = new StringBuilder();
    private final int[] answers;
    /** How often of 100 calls a piece of text is fed. */
    private final int pieces;
    private final int mostFuel;
    /** One of so many names is new. */
    private final int newNames;
    private int calls;
    private boolean isRight = true;
    /** The last run found no form. */
    private boolean isIdle;

    private ModelTest(int seed, int[] answers) {
        this.seed = seed;
        this.answers = answers;
        random = new Random(seed * 0x9E3779B97F4A7C15L);
        int size = SIZES[random.nextInt(SIZES.length)];
        pieces = 10 + random.nextInt(40);
        mostFuel = random.nextInt(4) == 0 ? 8 : 1200;
        newNames = random.nextInt(4) == 0 ? 3 : 200;
        lisp = new CellLisp(size);
        model = new Model(size);
    }

    public static void main(String[] args) {
        int runs = args.length > 0 ? Integer.parseInt(args[0]) : 8000;
        int[] answers = new int[12];
        for (int seed = 0; seed < runs; seed++) {
            new ModelTest(seed, answers).play();
        }
        for (int code = CellLisp.SYMBOLS; code <= CellLisp.NONE; code++) {
            System.out.println("run answered " + code + ": " + answers[code + 8] + " times");
            Trial.due("the runs come to " + code, answers[code + 8] > 0, true);
        }
        Trial.end();
    }

    private void play() {
        text.append(random.nextInt(3) == 0 ? "" : FIRST_TEXT);
        while (calls + MOST_OF_A_TURN <= MOST_CALLS && isRight) {
            if (text.length() == 0) {
                String next = nextText();
                text.append(next.length() < 110 ? next : "7 ");
            }
            int kind = random.nextInt(100);
            if (kind < pieces || isIdle || model.count(0) == 0) {
                feedPieces(random.nextInt(3) == 0 ? 1 : 30);
                isIdle = false;
            } else if (kind < 92) {
                runSome();
            } else {
                ask();
            }
            askOne(random.nextInt(5));
            if (random.nextInt(4) == 0) {
                for (int what = 0; what < 5; what++) {
                    askOne(what);
                }
            }
        }
        for (int i = 0; i < model.outSize() && calls < MOST_CALLS && isRight; i++) {
            due("out(" + i + ")", lisp.out(i), model.out(i));
        }
    }

    private void askOne(int what) {
        if (what == 4) {
            due("liveCells()", lisp.liveCells(), model.liveCells());
        } else {
            due("count(" + what + ")", lisp.count(what), model.count(what));
        }
    }

    private void runSome() {
        int fuel = mostFuel < 10 ? random.nextInt(mostFuel) : random.nextInt(mostFuel) - 10;
        int answer = model.run(fuel);
        answers[answer + 8]++;
        due("run(" + fuel + ")", lisp.run(fuel), answer);
        isIdle = answer == CellLisp.NONE;
        if (isIdle && model.count(0) > 110) {
            calls = MOST_CALLS;
        }
    }

    private void due(String call, int got, int want) {
        calls++;
        if (got != want) {
            isRight = false;
        }
        Trial.due("seed " + seed + ", call " + calls + ": " + call, got, want);
    }

    private void feedPieces(int most) {
        for (int i = 0; i < most && text.length() > 0 && model.count(0) < 117; i++) {
            feedSome();
        }
    }

    private void feedSome() {
        int n = Math.min(text.length(), random.nextInt(20) == 0 ? random.nextInt(7) - 1 : 4);
        int word = random.nextInt();
        for (int i = 0; i < n; i++) {
            word = word << 8 | text.charAt(i);
        }
        boolean taken = model.feed(word, n);
        due("feed(" + word + ", " + n + ")", lisp.feed(word, n) ? 1 : 0, taken ? 1 : 0);
        if (taken) {
            text.delete(0, n);
        } else if (n > 0 && model.count(0) + n <= 120) {
            text.delete(0, n);
        }
    }

    private void ask() {
        int size = model.outSize();
        due("outSize()", lisp.outSize(), size);
        int step = 1 + size / 20;
        for (int i = size; i >= -step; i -= step) {
            due("out(" + i + ")", lisp.out(i), model.out(i));
        }
        if (random.nextInt(3) > 0) {
            calls++;
            lisp.clearOut();
            model.clearOut();
            due("outSize()", lisp.outSize(), 0);
        }
    }

    // ---- texts

    private String nextText() {
        if (newNames < 10 && random.nextInt(4) == 0) {
            StringBuilder names = new StringBuilder("'(");
            for (int i = random.nextInt(18); i >= 0; i--) {
                names.append(name()).append(' ');
            }
            return names.append(") ").toString();
        }
        switch (random.nextInt(16)) {
            case 0:
                return random.nextInt(3) == 0 ? noise() : "(define y " + random.nextInt(9) + ") ";
            case 1:
                return F;
            case 2:
                return "(f " + random.nextInt(35) + ") ";
            case 3:
                return G;
            case 4:
                return "(define a (list a a " + expression(1) + ")) ";
            case 5:
                return "(define a (list a)) ";
            case 6:
                return "(define b (g b " + expression(1) + ")) ";
            case 7:
                return "(define b ((lambda (x) (lambda (y) (set! x " + expression(2) + "))) a)) ";
            case 8:
                return "(define " + name() + " " + expression(3) + ") ";
            case 9:
                return "(define a (cons " + expression(1) + " a))";
            case 10:
                return random.nextInt(4) == 0 ? "(list" + " 1".repeat(random.nextInt(56)) + ") " : "a ";
            case 11:
                return "(define x (f " + random.nextInt(20) + ")) ";
            default:
                return expression(4) + (random.nextBoolean() ? " " : "\n");
        }
    }

    private String noise() {
        StringBuilder noise = new StringBuilder();
        String often = "()' \n(a1-";
        for (int i = random.nextInt(30); i >= 0; i--) {
            noise.append(random.nextInt(8) == 0
                    ? (char) random.nextInt(140) : often.charAt(random.nextInt(often.length())));
        }
        return noise.append(" )))))))))) ", 0, random.nextInt(12)).toString();
    }

    private String name() {
        if (random.nextInt(newNames) == 0) {
            return (random.nextInt(9) == 0 ? "verylongname" : "new") + random.nextInt(40);
        }
        return NAMES[random.nextInt(NAMES.length)];
    }

    private String atom() {
        switch (random.nextInt(6)) {
            case 0:
                return Integer.toString(random.nextInt(5) - 1);
            case 1:
                return Integer.toString(random.nextInt(2_000_000_000) - 1_000_000_000);
            case 2:
                return "()";
            default:
                return name();
        }
    }

    private String expression(int depth) {
        if (depth == 0 || random.nextInt(6) == 0) {
            return atom();
        }
        int d = depth - 1;
        switch (random.nextInt(20)) {
            case 0:
                return "'" + expression(d);
            case 1:
                return "(if " + expression(d) + " " + expression(d) + ")";
            case 2:
                return "(if " + expression(d) + " " + expression(d) + " " + expression(d) + ")";
            case 3:
                return "((lambda (x) " + expression(d) + ") " + expression(d) + ")";
            case 4:
                return "((lambda (x y) " + expression(d) + ")" + expression(d) + " " + expression(d) + ")";
            case 5:
                return "(lambda (" + name() + ") " + expression(d) + ")";
            case 6:
                return "(set! " + name() + " " + expression(d) + ")";
            case 7:
                return "(cons " + expression(d) + " " + expression(d) + ")";
            case 8:
                return "(list " + expression(d) + expression(d) + "'" + atom() + ")";
            case 9:
                return "(" + "+-*<".charAt(random.nextInt(4)) + " " + expression(d) + " " + expression(d) + ")";
            case 10:
                return "(eq? " + expression(d) + " " + expression(d) + ")";
            case 11:
                return (random.nextBoolean() ? "(car " : "(cdr ") + expression(d) + ")";
            case 12:
                return "(atom? " + expression(d) + ")";
            case 13:
                return "(" + expression(d) + " " + expression(d) + ")";
            case 14:
                return "(define " + name() + " " + expression(d) + ")";
            case 15:
                return "(f " + expression(d) + ")";
            case 16:
                return "(g " + expression(d) + " " + expression(d) + ")";
            case 17:
                return "((lambda () " + expression(d) + "))";
            case 18:
                return "'(" + expression(d) + " " + expression(d) + ")";
            default:
                return "(b " + expression(d) + ")";
        }
    }
}
