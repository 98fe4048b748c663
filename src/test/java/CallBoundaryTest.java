/** The boundary cases that the sentences of the promises 1 to 8 name. */
public final class CallBoundaryTest {
    private static final int LEAST = Integer.MIN_VALUE;
    private static final int MOST = Integer.MAX_VALUE;

    public static void main(String[] args) {
        promise1Size();
        promise1NoText();
        promise2Bytes();
        promise2NumberOfBytes();
        promise2Characters();
        promise2Full();
        promise3LeastFuel();
        promise3MostFuel();
        promise3EndOfOneForm();
        promise3None();
        promise3Errors();
        promise4OutSize();
        promise5Out();
        promise6ClearOut();
        promise7LiveCells();
        promise8Count();
        promise8OtherWhat();
        allPromises512Calls();
        Trial.end();
    }

    // ---- promise 1

    private static void promise1Size() {
        Trial.about("Promise 1", "Size cells (below 20 counts as 20, above 400 as 400), no text.");
        int[] few = {LEAST, -400, -1, 0, 1, 19, 20};
        for (int size : few) {
            hasCells(size, 20);
        }
        int[] between = {21, 22, 23, 255, 256, 257, 398, 399};
        for (int size : between) {
            hasCells(size, size);
        }
        int[] many = {400, 401, 402, 512, 65556, MOST};
        for (int size : many) {
            hasCells(size, 400);
        }
    }

    private static void hasCells(int size, int cells) {
        Trial.due("one cell less in use, of size " + size, canHaveInUse(size, cells - 1), cells - 1);
        Trial.due("all cells in use, of size " + size, canHaveInUse(size, cells), cells);
        Trial.due("one cell more in use, of size " + size, canHaveInUse(size, cells + 1), CellLisp.ROOM);
    }

    /** The cells in use after a form was read that fills the room up to cells, or the error of its reading. */
    private static int canHaveInUse(int size, int cells) {
        Trial trial = new Trial(size);
        int kept = 0;
        if (cells % 2 == 1) {
            trial.gives("(define car (lambda () 1)) ", "car");
            kept = 3;
        }
        for (int i = 0; i < 3 && cells - kept > 100; i++) {
            String name = "abc".substring(i, i + 1);
            trial.gives("(define " + name + " '(1" + " 1".repeat(49) + ")) ", name);
            kept += 100;
        }
        trial.feed("(1" + " 1".repeat((cells - kept) / 2 - 1) + ")");
        int answer = trial.lisp.run(1);
        return answer == CellLisp.MORE ? trial.lisp.liveCells() : answer;
    }

    private static void promise1NoText() {
        Trial.about("Promise 1", "Size cells (below 20 counts as 20, above 400 as 400), no text.");
        int[] sizes = {LEAST, -1, 19, 20, 21, 100, 399, 400, 401, MOST};
        for (int size : sizes) {
            Trial trial = new Trial(size);
            int[] counts = {0, 0, 16, 0};
            for (int what = 0; what < counts.length; what++) {
                Trial.due("count(" + what + ") of a new object", trial.lisp.count(what), counts[what]);
            }
            Trial.due("outSize of a new object", trial.lisp.outSize(), 0);
            Trial.due("out of a new object", trial.lisp.out(0), -1);
            Trial.due("liveCells of a new object", trial.lisp.liveCells(), 0);
            Trial.due("run of a new object", trial.lisp.run(1000), CellLisp.NONE);
        }
    }

    // ---- promise 2

    private static void promise2Bytes() {
        Trial.about("Promise 2",
                "Appends the n lowest bytes of word (n is 1 .. 4), the highest of them first, to the text.");
        String[] due = {"4", "34", "234", "1234"};
        for (int n = 1; n <= 4; n++) {
            Trial trial = new Trial(20);
            Trial.due("feed of " + n, trial.lisp.feed(0x31323334, n), true);
            Trial.due("text", trial.lisp.count(0), n);
            trial.gives(" ", due[n - 1]);
        }
        // The bytes above the n lowest may be anything.
        int[] words = {0xFFFFFF31, 0x00003132, 0x80313233, 0x31323334};
        for (int n = 1; n <= 4; n++) {
            Trial trial = new Trial(20);
            Trial.due("feed of " + n, trial.lisp.feed(words[n - 1], n), true);
            trial.gives(" ", "1234".substring(0, n));
        }
        // Appended: what waits stays before it.
        Trial trial = new Trial(20).feed("'(1");
        for (int n = 1; n <= 4; n++) {
            Trial.due("feed of " + n, trial.lisp.feed(0x20373839, n), true);
        }
        Trial.due("text", trial.lisp.count(0), 13);
        trial.gives(")", "(1989789 789)");
    }

    private static void promise2NumberOfBytes() {
        Trial.about("Promise 2", "False, changing nothing, when n is not as said, one of them is no character "
                + "as said, or there would be more than 120.");
        int[] wrong = {LEAST, -4, -1, 0, 5, 6, 8, 33, 257, MOST};
        for (int n : wrong) {
            Twins.changesNothing("feed of " + n + " bytes", 0, lisp -> lisp.feed(0x31323334, n) ? 1 : 0);
        }
    }

    private static void promise2Characters() {
        Trial.about("Promise 2", "False, changing nothing, when n is not as said, one of them is no character "
                + "as said, or there would be more than 120.");
        int[] wrong = {0, 1, 9, 11, 13, 31, 127, 128, 138, 160, 254, 255};
        for (int c : wrong) {
            for (int n = 1; n <= 4; n++) {
                for (int place = 0; place < n; place++) {
                    int word = 0x31313131 & ~(255 << 8 * place) | c << 8 * place;
                    int bytes = n;
                    Twins twins = new Twins(100, "'(1 2) abc", 3);
                    twins.stayTheSame("feed of character " + c, 0, lisp -> lisp.feed(word, bytes) ? 1 : 0);
                }
            }
            Twins.changesNothing("feed of character " + c, 0, lisp -> lisp.feed(c << 8 | 0x31, 2) ? 1 : 0);
        }
    }

    private static void promise2Full() {
        Trial.about("Promise 2", "False, changing nothing, when n is not as said, one of them is no character "
                + "as said, or there would be more than 120.");
        for (int n = 1; n <= 4; n++) {
            int bytes = n;
            for (int waiting = 114; waiting <= 120; waiting++) {
                String text = "(list 1 'b) " + "x".repeat(waiting - 14) + " )";
                if (waiting + n <= 120) {
                    Trial trial = new Trial(400).feed(text);
                    Trial.due("feed of " + n + " behind " + waiting, trial.lisp.feed(0x31323334, n), true);
                    Trial.due("text", trial.lisp.count(0), waiting + n);
                } else {
                    Twins twins = new Twins(400, text, 0);
                    twins.stayTheSame("feed of " + n + " behind " + waiting, 0, lisp -> lisp.feed(0x31323334, bytes) ? 1 : 0);
                }
            }
        }
        // What was taken out leaves its place to others.
        Trial trial = new Trial(100).feed("12" + " ".repeat(118));
        Trial.due("feed of 1 behind 120", trial.lisp.feed(0x20, 1), false);
        Trial.due("run", trial.lisp.run(1), CellLisp.MORE);
        Trial.due("feed of 3 behind 118", trial.lisp.feed(0x202020, 3), false);
        Trial.due("feed of 2 behind 118", trial.lisp.feed(0x2020, 2), true);
        Trial.due("feed of 1 behind 120", trial.lisp.feed(0x20, 1), false);
    }

    // ---- promise 3

    private static void promise3LeastFuel() {
        Trial.about("Promise 3", "At most fuel steps (below 1 counts as 1, above 1000 as 1000), up to the end of one form");
        int[] low = {LEAST, -1000, -1, 0, 1};
        for (int fuel : low) {
            stepsOf(fuel, 1);
        }
        stepsOf(2, 2);
        stepsOf(3, 3);
    }

    private static void promise3MostFuel() {
        Trial.about("Promise 3", "At most fuel steps (below 1 counts as 1, above 1000 as 1000), up to the end of one form");
        stepsOf(998, 998);
        stepsOf(999, 999);
        int[] high = {1000, 1001, 1002, 2000, 65537, MOST};
        for (int fuel : high) {
            stepsOf(fuel, 1000);
        }
    }

    /** How many steps of a form without end are done. */
    private static void stepsOf(int fuel, int steps) {
        Trial trial = new Trial(100).gives("(define f (lambda () (f))) ", "f").feed("(f) ");
        for (int i = 1; i <= 3; i++) {
            Trial.due("run(" + fuel + ")", trial.lisp.run(fuel), CellLisp.MORE);
            Trial.due("steps by run(" + fuel + ")", trial.lisp.count(3), i * steps);
        }
    }

    private static void promise3EndOfOneForm() {
        Trial.about("Promise 3", "At most fuel steps (below 1 counts as 1, above 1000 as 1000), up to the end of one form");
        int[] fuels = {8, 9, 10, 1000, MOST};
        for (int fuel : fuels) {
            Trial trial = new Trial(100).feed("(+ 1 2) 5 ");
            boolean ends = fuel >= 9;
            Trial.due("run(" + fuel + ") of 9 steps", trial.lisp.run(fuel), ends ? CellLisp.DONE : CellLisp.MORE);
            Trial.due("steps", trial.lisp.count(3), ends ? 9 : 8);
            Trial.due("text", trial.lisp.count(0), 3);
            Trial.due("taken", trial.taken(), ends ? "3\n" : "");
            if (!ends) {
                Trial.due("run(1)", trial.lisp.run(1), CellLisp.DONE);
                Trial.due("taken", trial.taken(), "3\n");
            }
            Trial.due("run(2) of 3 steps", trial.lisp.run(2), CellLisp.MORE);
            Trial.due("run(1)", trial.lisp.run(1), CellLisp.DONE);
            Trial.due("taken", trial.taken(), "5\n");
        }
    }

    private static void promise3None() {
        Trial.about("Promise 3", "DONE when it was printed, MORE, NONE (nothing is done), or an error.");
        String[] texts = {"", " ", "\n \n", "1", "abc", " new", "(", "(new", "(new ", "(new (x)", "'", "' ", "'new", "'(new",
            "(new '", "((((((((((", "x".repeat(120), " ".repeat(120), "(" + " new".repeat(29) + "..."};
        int[] fuels = {LEAST, 0, 1, 2, 1000, MOST};
        for (String text : texts) {
            for (int fuel : fuels) {
                new Twins(20, text, 0).stayTheSame("run(" + fuel + ")", CellLisp.NONE, lisp -> lisp.run(fuel));
            }
        }
        // Behind a form that was done or has failed.
        String[] ended = {"'(1 2) ", "'(1 2) x", "(define a '(1 2)) ", "(car 5) (", ") '", "undef ("};
        int[] steps = {3, 3, 5, 6, 1, 2};
        for (int i = 0; i < ended.length; i++) {
            new Twins(60, ended[i], steps[i]).stayTheSame("run(1000)", CellLisp.NONE, lisp -> lisp.run(1000));
        }
    }

    private static void promise3Errors() {
        Trial.about("Promise 3", "DONE when it was printed, MORE, NONE (nothing is done), or an error.");
        String names = "(a1 a2 a3 a4 a5 a6 a7 a8 a9 b1 b2 b3 b4 b5 b6 b7 b8 b9 c1 c2 c3 c4 c5 c6 c7)";
        String endless = "((lambda (f) (f f)) (lambda (f) (+ 1 (f f))))";
        String[] texts = {")", "undef", "(if)", "(car)", "(car 1)", endless, "'(1" + " 1".repeat(50) + ")", names};
        int[] errors = {CellLisp.SYNTAX, CellLisp.UNBOUND, CellLisp.FORM, CellLisp.COUNT, CellLisp.TYPE,
            CellLisp.STACK, CellLisp.ROOM, CellLisp.SYMBOLS};
        int[] sizes = {20, 20, 20, 20, 20, 400, 100, 100};
        int[] steps = {1, 2, 2, 4, 6, 0, 1, 1};
        for (int i = 0; i < texts.length; i++) {
            Trial trial = new Trial(sizes[i]).feed(texts[i] + " 5 ");
            Trial.due("run of " + texts[i], trial.runToEnd(), errors[i]);
            if (steps[i] > 0) {
                Trial.due("steps of " + texts[i], trial.lisp.count(3), steps[i]);
            }
            Trial.due("text", trial.lisp.count(0), 3);
            Trial.due("frames", trial.lisp.count(1), 0);
            Trial.due("liveCells", trial.lisp.liveCells(), 0);
            Trial.due("outSize", trial.lisp.outSize(), 0);
            trial.gives("", "5");
        }
    }

    // ---- promises 4, 5 and 6

    private static void promise4OutSize() {
        Trial.about("Promise 4", "How many characters wait to be taken.");
        int[] sizes = {0, 2, 3, 11, 120, 127, 128, 129, 198, 199, 200};
        for (int size : sizes) {
            Trial trial = Trial.withWaiting(size);
            Trial.due("outSize", trial.lisp.outSize(), size);
            Trial.due("outSize again", trial.lisp.outSize(), size);
        }
        Trial.due("outSize", Trial.withWaiting(201).lisp.outSize(), 200);
        Twins.changesNothing("outSize", 0, lisp -> Math.min(0, lisp.outSize()));
        // Neither a form under way nor one that fails puts a character there.
        Trial trial = new Trial(100).feed("12 (car '(1 2) 3)");
        int[] due = {0, 0, 3, 3, 3, 3, 3, 3, 3, 3, 3};
        for (int i = 0; i < due.length; i++) {
            Trial.due("run", trial.lisp.run(1), i == 2 ? CellLisp.DONE : i == 10 ? CellLisp.COUNT : CellLisp.MORE);
            Trial.due("outSize after step " + i, trial.lisp.outSize(), due[i]);
        }
    }

    private static void promise5Out() {
        Trial.about("Promise 5", "The i-th of them (from 0 on); -1 when there is none.");
        int[] sizes = {0, 2, 10, 199, 200};
        for (int size : sizes) {
            Trial trial = Trial.withWaiting(size);
            int[] none = {LEAST, -200, -2, -1, size, size + 1, 200, 201, 256, MOST};
            for (int i : none) {
                Trial.due("out(" + i + ") of " + size, trial.lisp.out(i), -1);
            }
            if (size > 0) {
                Trial.due("out(0) of " + size, trial.lisp.out(0), (int) '1');
                Trial.due("the last of " + size, trial.lisp.out(size - 1), 10);
                Trial.due("the last but one of " + size, trial.lisp.out(size - 2) > 32, true);
            }
            Trial.due("outSize", trial.lisp.outSize(), size);
        }
        int[] outside = {LEAST, -1, 200, MOST};
        for (int i : outside) {
            Twins.changesNothing("out(" + i + ")", -1, lisp -> lisp.out(i));
        }
        Twins.changesNothing("out(0)", 0, lisp -> Math.min(0, lisp.out(0) + 1));
    }

    private static void promise6ClearOut() {
        Trial.about("Promise 6", "They are taken.");
        int[] sizes = {0, 2, 199, 200, 201};
        for (int size : sizes) {
            Trial trial = Trial.withWaiting(size);
            for (int i = 0; i < 2; i++) {
                trial.lisp.clearOut();
                Trial.due("outSize", trial.lisp.outSize(), 0);
                Trial.due("out(0)", trial.lisp.out(0), -1);
                Trial.due("out(199)", trial.lisp.out(199), -1);
            }
            trial.feed("7 ");
            Trial.due("run", trial.lisp.run(3), CellLisp.DONE);
            Trial.due("taken", trial.taken(), "7\n");
        }
        // Where none waits, there is nothing to change; a form under way goes on.
        Twins idle = new Twins(100, "(list 1 'b) x", 0);
        idle.stayTheSame("clearOut", 0, CallBoundaryTest::clearedOut);
        for (int steps = 1; steps < 9; steps++) {
            new Twins(100, "(list 1 'b) x", steps).stayTheSame("clearOut", 0, CallBoundaryTest::clearedOut);
        }
    }

    private static int clearedOut(CellLisp lisp) {
        lisp.clearOut();
        return lisp.outSize();
    }

    // ---- promises 7 and 8

    private static void promise7LiveCells() {
        Trial.about("Promise 7", "How many cells are in use.");
        Trial.due("none in a small room", new Trial(20).lisp.liveCells(), 0);
        Trial.due("none in a large room", new Trial(400).lisp.liveCells(), 0);
        Trial.due("one pair", canHaveInUse(20, 2), 2);
        Trial.due("one closure and a pair", canHaveInUse(20, 5), 5);
        Trial.due("all but one of a small room", canHaveInUse(20, 19), 19);
        Trial.due("all of a small room", canHaveInUse(20, 20), 20);
        Trial.due("all of an odd room", canHaveInUse(21, 21), 21);
        Trial.due("all of a large room", canHaveInUse(400, 400), 400);
        Twins.changesNothing("liveCells", 0, lisp -> Math.min(0, lisp.liveCells()));
        // A full room is full no more when the form has ended.
        Trial trial = new Trial(20).feed("'(1 2 3 4 5 6 7 8) (undef 2 3 4 5 6 7 8 9 10) ");
        Trial.due("run", trial.lisp.run(1), CellLisp.MORE);
        Trial.due("liveCells", trial.lisp.liveCells(), 20);
        Trial.due("run", trial.lisp.run(9), CellLisp.DONE);
        Trial.due("liveCells", trial.lisp.liveCells(), 0);
        Trial.due("run", trial.lisp.run(1), CellLisp.MORE);
        Trial.due("liveCells", trial.lisp.liveCells(), 20);
        Trial.due("run", trial.lisp.run(9), CellLisp.UNBOUND);
        Trial.due("liveCells", trial.lisp.liveCells(), 0);
    }

    private static void promise8Count() {
        Trial.about("Promise 8", "How many characters wait (what 0), frames there are (1), symbols are known (2), "
                + "steps were done since the last form began (3); -1 for another what.");
        Trial trial = new Trial(400);
        counts(trial, 0, 0, 16, 0);
        trial.feed("x");
        counts(trial, 1, 0, 16, 0);
        trial.feed("y".repeat(119));
        counts(trial, 120, 0, 16, 0);
        Trial.due("run", trial.lisp.run(1), CellLisp.NONE);
        counts(trial, 120, 0, 16, 0);
        String endless = "((lambda (f) (f f)) (lambda (f) (if (f f) 1)))";
        Trial deep = new Trial(400).feed(endless);
        int answer = deep.lisp.run(1);
        counts(deep, 0, 0, 17, 1);
        int most = 0;
        int steps = 1;
        while (answer == CellLisp.MORE && steps < 1000) {
            answer = deep.lisp.run(1);
            steps++;
            most = Math.max(most, deep.lisp.count(1));
        }
        Trial.due("end of " + endless, answer, CellLisp.STACK);
        Trial.due("most frames", most, 30);
        counts(deep, 0, 0, 17, steps);
        deep.feed("'(a1 a2 a3 a4 a5 a6 a7 a8 a9 b1 b2 b3 b4 b5 b6 b7 b8 b9 c1 c2 c3 c4 c5)");
        Trial.due("run", deep.lisp.run(1), CellLisp.MORE);
        counts(deep, 0, 0, 40, 1);
        Trial.due("run", deep.lisp.run(1000), CellLisp.DONE);
        counts(deep, 0, 0, 40, 3);
    }

    private static void counts(Trial trial, int characters, int frames, int symbols, int steps) {
        int[] due = {characters, frames, symbols, steps};
        for (int what = 0; what < due.length; what++) {
            Trial.due("count(" + what + ")", trial.lisp.count(what), due[what]);
        }
    }

    private static void promise8OtherWhat() {
        Trial.about("Promise 8", "How many characters wait (what 0), frames there are (1), symbols are known (2), "
                + "steps were done since the last form began (3); -1 for another what.");
        int[] others = {LEAST, -2, -1, 4, 5, 256, MOST};
        for (int what : others) {
            Twins.changesNothing("count(" + what + ")", -1, lisp -> lisp.count(what));
        }
        for (int what = 0; what < 4; what++) {
            int asked = what;
            Twins.changesNothing("count(" + what + ")", 0, lisp -> Math.min(0, lisp.count(asked)));
        }
    }

    private static void allPromises512Calls() {
        Trial.about("All promises", "An object is used for at most 512 calls after it has been made");
        // 14 calls of feed and one of run, ..
        Trial trial = new Trial(60).feed("(define n ((lambda (k) (lambda () (set! k (+ k 1)))) 0))");
        Trial.due("call 15", trial.lisp.run(1000), CellLisp.DONE);
        trial.lisp.clearOut();
        int calls = 16;
        for (int i = 1; i <= 124; i++) {
            // .. and 124 times 4 calls: the last one is the 512th.
            trial.lisp.clearOut();
            Trial.due("call " + (calls + 2), trial.lisp.feed(Trial.word("(n) "), 4), true);
            Trial.due("call " + (calls + 3), trial.lisp.run(1000), CellLisp.DONE);
            calls += 4;
            Trial.due("call " + calls, trial.lisp.out(0), (int) Integer.toString(i).charAt(0));
        }
        Trial.due("calls", calls, 512);
    }
}
