/** Promise 1: a new object. */
public final class NewObjectTest {
    public static void main(String[] args) {
        isNew(new Trial(100));
        isNew(new Trial(Integer.MIN_VALUE));
        isNew(new Trial(Integer.MAX_VALUE));
        hasCells(20, 20);
        hasCells(19, 20);
        hasCells(0, 20);
        hasCells(-1, 20);
        hasCells(Integer.MIN_VALUE, 20);
        hasCells(21, 21);
        hasCells(22, 22);
        hasCells(57, 57);
        hasCells(399, 399);
        hasCells(400, 400);
        hasCells(401, 400);
        hasCells(Integer.MAX_VALUE, 400);
        Trial.end();
    }

    private static void isNew(Trial trial) {
        Trial.due("text", trial.lisp.count(0), 0);
        Trial.due("frames", trial.lisp.count(1), 0);
        Trial.due("symbols", trial.lisp.count(2), 16);
        Trial.due("steps", trial.lisp.count(3), 0);
        Trial.due("outSize", trial.lisp.outSize(), 0);
        Trial.due("out", trial.lisp.out(0), -1);
        Trial.due("liveCells", trial.lisp.liveCells(), 0);
        Trial.due("run", trial.lisp.run(1), CellLisp.NONE);
    }

    /** Fills the room with pairs by cons, as long as there is room for the form that asks for one. */
    private static void hasCells(int size, int cells) {
        Trial trial = new Trial(size);
        trial.gives("(define a ()) ", "a");
        int kept = 0;
        if (cells % 2 == 0) {
            // A closure has 3 cells: without it, pairs alone could not tell this room from one cell more.
            trial.gives("(define f (lambda () 1)) ", "f");
            kept = 3;
        }
        // A large room is filled by lists first, as an object is used for 512 calls at most.
        for (int i = 0; kept + 102 <= cells; i++) {
            trial.gives("(define l" + i + " '" + ones(45).trim() + ") ", "l" + i);
            kept += 90;
        }
        // The form has 6 pairs; what its evaluation holds later on is less than that.
        while (kept + 12 <= cells) {
            trial.gives("(define a (cons 1 a)) ", "a");
            kept += 2;
            if (kept + 20 > cells) {
                Trial.due("liveCells", trial.lisp.liveCells(), kept);
            }
        }
        trial.fails("(define a (cons 1 a)) ", CellLisp.ROOM);
        Trial.due("liveCells", trial.lisp.liveCells(), kept);
        fillsByReading(trial, cells - kept);
    }

    /** What is free takes a quoted list of just so many cells, and no more. */
    private static void fillsByReading(Trial trial, int free) {
        trial.fails(ones(free / 2 + 1), CellLisp.ROOM);
        Trial.due("the form is gone", trial.lisp.count(0), 1);
        trial.feed(ones(free / 2));
        Trial.due("run", trial.lisp.run(1), CellLisp.MORE);
    }

    private static String ones(int n) {
        StringBuilder list = new StringBuilder("(");
        for (int i = 0; i < n; i++) {
            list.append(" 1");
        }
        return list.append(" ) ").toString();
    }
}
