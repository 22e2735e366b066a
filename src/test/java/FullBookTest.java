/** One object with all its limits reached, asked up to its 512th call, each answer compared with the slow book's. */
public final class FullBookTest {
    private final Book book = new Book();
    private final SlowBook slow = new SlowBook();

    public static void main(String[] args) {
        Check.sentence("An object is used for at most 512 calls after it has been made");
        new FullBookTest().run();
        Check.finish();
    }

    private void due(String call, int want, int got) {
        Check.due(call + " with " + book.callsLeft() + " calls left", want, got);
    }

    private void due(String call, int want, boolean got) {
        due(call, want, got ? 1 : 0);
    }

    private void run() {
        allThings();
        allBytes();
        for (int i = 0; i < 9; i++) {
            due("days", slow.days(1000), book.days(1000));
        }
        allGatherings();
        allActs();
        due("days", slow.days(999), book.days(999));
        limitsAreReached();
        oneMoreOfEach();
        limitsAreReached();
        whatIsLeft();
        Check.due("calls left", 0, book.callsLeft());
    }

    private void allThings() {
        for (int t = 0; t < 20; t++) {
            int kind = t % 5;
            int rank = t * 7 % 10;
            due("thing", slow.thing(kind, rank, kind, 15, 0), book.thing(kind, rank, kind, 15, 0));
        }
    }

    private void allBytes() {
        String rule = "bar rank bowl>7 and guests<2 or age vase<9;\n   \n  ";
        String text = rule.repeat(12);
        for (int from = 0; from < 600; from += 20) {
            int[] n = Check.numbers(text, from);
            due("feed", slow.feed(n), book.feed(n[0], n[1], n[2], n[3], n[4]));
        }
        due("the 31st feed", slow.feed(0, 0, 0, 0, 0), book.feed(0, 0, 0, 0, 0));
        due("rules", slow.rules(), book.rules());
    }

    private void allGatherings() {
        for (int i = 0; i < 60; i++) {
            int set = 1 << i % 4 * 5 | 2 << i / 4 % 4 * 5 | 28 << i % 3 * 5;
            due("gather", slow.gather(0, i % 4, 1 + i * 4, set), book.gather(0, i % 4, 1 + i * 4, set));
        }
    }

    private void allActs() {
        for (int i = 0; i < 149; i++) {
            due("lend", slow.lend(i % 20, 7), book.lend(i % 20, 7));
            due("back", slow.back(i % 20), book.back(i % 20));
        }
        due("act 299", slow.pass(0, 7), book.pass(0, 7));
        due("act 300", slow.burn(1), book.burn(1));
    }

    private void limitsAreReached() {
        int[] limits = {9999, 20, 19, 60, 12};
        for (int what = 0; what < limits.length; what++) {
            due("look " + what, limits[what], book.look(what));
        }
    }

    private void oneMoreOfEach() {
        due("thing 20", slow.thing(0, 0, 0, 1, 0), book.thing(0, 0, 0, 1, 0));
        due("copy 20", slow.copy(0, 0, 0), book.copy(0, 0, 0));
        due("act 301", slow.pass(2, 7), book.pass(2, 7));
        due("act 301", slow.lend(2, 7), book.lend(2, 7));
        due("act 301", slow.burn(2), book.burn(2));
        due("gathering 60", slow.gather(0, 0, 1, 4), book.gather(0, 0, 1, 4));
        due("day 10000", slow.days(1), book.days(1));
    }

    private void whatIsLeft() {
        for (int i = 0; book.callsLeft() > 1; i++) {
            int t = i % 20;
            int guests = 1 + i * 3;
            int set = 1 << t | 1 << (t + 1) % 20;
            switch (i % 6) {
                case 0 -> due("best", slow.best(0, 3, guests, 31, i / 6 % 4), book.best(0, 3, guests, 31, i / 6 % 4));
                case 1 -> due("held", slow.held(t, 9000 - i % 2, 1), book.held(t, 9000 - i % 2, 1));
                case 2 -> due("seen", slow.seen(i % 8, t, t / 2), book.seen(i % 8, t, t / 2));
                case 3 -> due("again", slow.again(guests, set), book.again(guests, set));
                case 4 -> due("barred", slow.barred(3, guests, set), book.barred(3, guests, set));
                default -> due("gathering", slow.gathering(i, i % 5), book.gathering(i, i % 5));
            }
        }
        due("the last call", slow.best(0, 3, 255, 31, 0), book.best(0, 3, 255, 31, 0));
    }
}
