import java.util.Random;

/** Compares every answer of many runs of calls with the answers of the model; the seeds are fixed. */
public final class ModelTest {
    private static final int CALLS = 300;
    private static final int[] SIZES = {-5, 20, 25, 41, 60, 80, 101, 120, 150, 200, 250, 300, 350, 400, 400, 500};
    private static final String[] NAMES = {"a", "b", "x", "y", "a", "b", "x", "y", "f", "g", "t", "nil", "car", "if"};
    private static final String F = "(define f (lambda (x) (if (< x 1) y (cons x (f (- x 1)))))) ";
    private static final String G = "(define g (lambda (x y) (if x (g (cdr x) (cons (car x) y)) y))) ";
    private static final String FIRST_TEXT = "(define a 1) (define b '(2 3)) (define x a) (define y b) " + F + G;

    private final Random random;
    private final int seed;
    private final CellLisp lisp;
    private final Model model;
    private final StringBuilder text = new StringBuilder();
    private final int[] answers;
    /** How often of 100 calls a piece of text is fed. */
    private final int pieces;
    private final int mostFuel;
    /** One of so many names is new. */
    private final int newNames;
    private int calls;
    private boolean isRight = true;

    private ModelTest(int seed, int[] answers) {
        this.seed = seed;
        this.answers = answers;
        random = new Random(seed * 0x9E3779B97F4A7C15L);
        int size = SIZES[random.nextInt(SIZES.length)];
        pieces = 10 + random.nextInt(40);
        mostFuel = random.nextInt(4) == 0 ? 8 : 1200;
        newNames = random.nextInt(4) == 0 ? 3 : 200;
        lisp = new CellLisp(size);
        model = new Model(size);
    }

    public static void main(String[] args) {
        int runs = args.length > 0 ? Integer.parseInt(args[0]) : 1500;
        int[] answers = new int[12];
        for (int seed = 0; seed < runs; seed++) {
            new ModelTest(seed, answers).play();
        }
        for (int code = CellLisp.SYMBOLS; code <= CellLisp.NONE; code++) {
            System.out.println("run answered " + code + ": " + answers[code + 8] + " times");
            Trial.due("the runs come to " + code, answers[code + 8] > 0, true);
        }
        Trial.end();
    }

    private void play() {
        text.append(random.nextInt(3) == 0 ? "" : FIRST_TEXT);
        while (calls < CALLS && isRight) {
            calls++;
            if (text.length() == 0) {
                String next = nextText();
                text.append(next.length() < 110 ? next : "7 ");
            }
            int kind = random.nextInt(100);
            if (kind < pieces || model.count(0) == 0) {
                feedPieces(random.nextInt(3) == 0 ? 1 : 30);
            } else if (kind < 92) {
                runSome();
            } else {
                ask();
            }
            due("liveCells()", lisp.liveCells(), model.liveCells());
            for (int what = 0; what < 4; what++) {
                due("count(" + what + ")", lisp.count(what), model.count(what));
            }
        }
    }

    private void runSome() {
        int fuel = mostFuel < 10 ? random.nextInt(mostFuel) : random.nextInt(mostFuel) - 10;
        int answer = model.run(fuel);
        answers[answer + 8]++;
        due("run(" + fuel + ")", lisp.run(fuel), answer);
        if (answer == CellLisp.NONE && model.count(0) > 110) {
            calls = CALLS;
        }
    }

    private void due(String call, int got, int want) {
        if (got != want) {
            isRight = false;
        }
        Trial.due("seed " + seed + ", call " + calls + ": " + call, got, want);
    }

    private void feedPieces(int most) {
        for (int i = 0; i < most && text.length() > 0 && model.count(0) < 117; i++) {
            feedSome();
        }
    }

    private void feedSome() {
        int n = Math.min(text.length(), random.nextInt(20) == 0 ? random.nextInt(7) - 1 : 4);
        int word = random.nextInt();
        for (int i = 0; i < n; i++) {
            word = word << 8 | text.charAt(i);
        }
        boolean taken = model.feed(word, n);
        due("feed(" + word + ", " + n + ")", lisp.feed(word, n) ? 1 : 0, taken ? 1 : 0);
        if (taken) {
            text.delete(0, n);
        } else if (n > 0 && model.count(0) + n <= 120) {
            text.delete(0, n);
        }
    }

    private void ask() {
        int size = model.outSize();
        due("outSize()", lisp.outSize(), size);
        for (int i = -1; i <= size; i++) {
            if (lisp.out(i) != model.out(i)) {
                due("out(" + i + ")", lisp.out(i), model.out(i));
            }
        }
        if (random.nextInt(3) > 0) {
            lisp.clearOut();
            model.clearOut();
            due("outSize()", lisp.outSize(), 0);
        }
    }

    // ---- texts

    private String nextText() {
        switch (random.nextInt(16)) {
            case 0:
                return random.nextInt(3) == 0 ? noise() : "(define y " + random.nextInt(9) + ") ";
            case 1:
                return F;
            case 2:
                return "(f " + random.nextInt(35) + ") ";
            case 3:
                return G;
            case 4:
                return "(define a (list a a " + expression(1) + ")) ";
            case 5:
                return "(define a (list a)) ";
            case 6:
                return "(define b (g b " + expression(1) + ")) ";
            case 7:
                return "(define b ((lambda (x) (lambda (y) (set! x " + expression(2) + "))) a)) ";
            case 8:
                return "(define " + name() + " " + expression(3) + ") ";
            case 9:
                return "(define a (cons " + expression(1) + " a))";
            case 10:
                return random.nextInt(4) == 0 ? "(list" + " 1".repeat(random.nextInt(56)) + ") " : "a ";
            case 11:
                return "(define x (f " + random.nextInt(20) + ")) ";
            default:
                return expression(4) + (random.nextBoolean() ? " " : "\n");
        }
    }

    private String noise() {
        StringBuilder noise = new StringBuilder();
        String often = "()' \n(a1-";
        for (int i = random.nextInt(30); i >= 0; i--) {
            noise.append(random.nextInt(8) == 0
                    ? (char) random.nextInt(140) : often.charAt(random.nextInt(often.length())));
        }
        return noise.append(" )))))))))) ", 0, random.nextInt(12)).toString();
    }

    private String name() {
        if (random.nextInt(newNames) == 0) {
            return (random.nextInt(9) == 0 ? "verylongname" : "new") + random.nextInt(40);
        }
        return NAMES[random.nextInt(NAMES.length)];
    }

    private String atom() {
        switch (random.nextInt(6)) {
            case 0:
                return Integer.toString(random.nextInt(5) - 1);
            case 1:
                return Integer.toString(random.nextInt(2_000_000_000) - 1_000_000_000);
            case 2:
                return "()";
            default:
                return name();
        }
    }

    private String expression(int depth) {
        if (depth == 0 || random.nextInt(6) == 0) {
            return atom();
        }
        int d = depth - 1;
        switch (random.nextInt(20)) {
            case 0:
                return "'" + expression(d);
            case 1:
                return "(if " + expression(d) + " " + expression(d) + ")";
            case 2:
                return "(if " + expression(d) + " " + expression(d) + " " + expression(d) + ")";
            case 3:
                return "((lambda (x) " + expression(d) + ") " + expression(d) + ")";
            case 4:
                return "((lambda (x y) " + expression(d) + ")" + expression(d) + " " + expression(d) + ")";
            case 5:
                return "(lambda (" + name() + ") " + expression(d) + ")";
            case 6:
                return "(set! " + name() + " " + expression(d) + ")";
            case 7:
                return "(cons " + expression(d) + " " + expression(d) + ")";
            case 8:
                return "(list " + expression(d) + expression(d) + "'" + atom() + ")";
            case 9:
                return "(" + "+-*<".charAt(random.nextInt(4)) + " " + expression(d) + " " + expression(d) + ")";
            case 10:
                return "(eq? " + expression(d) + " " + expression(d) + ")";
            case 11:
                return (random.nextBoolean() ? "(car " : "(cdr ") + expression(d) + ")";
            case 12:
                return "(atom? " + expression(d) + ")";
            case 13:
                return "(" + expression(d) + " " + expression(d) + ")";
            case 14:
                return "(define " + name() + " " + expression(d) + ")";
            case 15:
                return "(f " + expression(d) + ")";
            case 16:
                return "(g " + expression(d) + " " + expression(d) + ")";
            case 17:
                return "((lambda () " + expression(d) + "))";
            case 18:
                return "'(" + expression(d) + " " + expression(d) + ")";
            default:
                return "(b " + expression(d) + ")";
        }
    }
}
