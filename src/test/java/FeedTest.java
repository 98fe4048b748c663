/** Promise 2: feed. */
public final class FeedTest {
    public static void main(String[] args) {
        takesTheLowestBytes();
        refusesOtherNumbers();
        refusesOtherCharacters();
        takesAtMost120();
        takesTextWhileAFormIsUnderWay();
        Trial.end();
    }

    private static void takesTheLowestBytes() {
        Trial trial = new Trial(100);
        Trial.due("1 byte", trial.lisp.feed(0xFFFFFF31, 1), true);
        Trial.due("2 bytes", trial.lisp.feed(0x00003233, 2), true);
        Trial.due("3 bytes", trial.lisp.feed(0x80343536, 3), true);
        Trial.due("4 bytes", trial.lisp.feed(0x37383920, 4), true);
        Trial.due("text", trial.lisp.count(0), 10);
        trial.gives("", "123456789");
        Trial.due("text", trial.lisp.count(0), 1);
    }

    private static void refusesOtherNumbers() {
        Trial trial = new Trial(100);
        int[] numbers = {0, 5, -1, 8, 32, Integer.MIN_VALUE, Integer.MAX_VALUE};
        for (int n : numbers) {
            Trial.due("feed of " + n, trial.lisp.feed(0x31313131, n), false);
        }
        Trial.due("text", trial.lisp.count(0), 0);
    }

    private static void refusesOtherCharacters() {
        for (int c = 0; c < 256; c++) {
            boolean due = c == 10 || (c >= 32 && c <= 126);
            for (int place = 0; place < 4; place++) {
                Trial trial = new Trial(20);
                int word = 0x31313131 & ~(255 << 8 * place) | c << 8 * place;
                Trial.due("character " + c, trial.lisp.feed(word, 4), due);
                Trial.due("text", trial.lisp.count(0), due ? 4 : 0);
                Trial.due("fewer bytes", trial.lisp.feed(word, place == 0 ? 1 : place), due || place > 0);
            }
        }
    }

    private static void takesAtMost120() {
        Trial trial = new Trial(20);
        for (int i = 0; i < 29; i++) {
            Trial.due("feed", trial.lisp.feed(0x61616161, 4), true);
        }
        Trial.due("feed of 3", trial.lisp.feed(0x616161, 3), true);
        Trial.due("text", trial.lisp.count(0), 119);
        Trial.due("feed of 2", trial.lisp.feed(0x6161, 2), false);
        Trial.due("feed of 4", trial.lisp.feed(0x61616161, 4), false);
        Trial.due("text", trial.lisp.count(0), 119);
        Trial.due("feed of 1", trial.lisp.feed(0x20, 1), true);
        Trial.due("text", trial.lisp.count(0), 120);
        Trial.due("feed of 1", trial.lisp.feed(0x20, 1), false);
        Trial.due("run", trial.runToEnd(), CellLisp.UNBOUND);
        Trial.due("text", trial.lisp.count(0), 1);
        Trial.due("feed", trial.lisp.feed(0x61616161, 4), true);

        Trial full = new Trial(20);
        for (int i = 0; i < 30; i++) {
            Trial.due("feed", full.lisp.feed(0x61616161, 4), true);
        }
        Trial.due("feed of 1", full.lisp.feed(0x20, 1), false);
        Trial.due("a word that nothing follows", full.lisp.run(1000), CellLisp.NONE);
        Trial.due("text", full.lisp.count(0), 120);
    }

    private static void takesTextWhileAFormIsUnderWay() {
        Trial trial = new Trial(100).feed("(+ 1 2) ");
        Trial.due("run", trial.lisp.run(3), CellLisp.MORE);
        trial.feed("7 ");
        Trial.due("text", trial.lisp.count(0), 3);
        Trial.due("run", trial.lisp.run(1000), CellLisp.DONE);
        Trial.due("taken", trial.taken(), "3\n");
        trial.gives("", "7");
        Trial.due("run", trial.lisp.run(1000), CellLisp.NONE);
        Trial.due("text", trial.lisp.count(0), 1);
    }
}
