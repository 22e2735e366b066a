/** Promises 13 to 16: gather, gathering, seen, again. */
public final class GatheringsTest {
    private static final int NONE = TeaBook.NONE;
    private static final int MIN = Integer.MIN_VALUE;
    private static final int MAX = Integer.MAX_VALUE;

    public static void main(String[] args) {
        gather();
        mostGatherings();
        gathering();
        seen();
        again();
        Check.finish();
    }

    /** Things 0 to 4 of the five kinds and 5, a second bowl, in house 1; 6, a scroll, in house 2. */
    private static Book book() {
        Book x = new Book();
        for (int kind = 0; kind < 5; kind++) {
            x.thing(kind, kind, kind, 1, 1);
        }
        x.thing(0, 9, 9, 1, 1);
        x.thing(1, 9, 9, 1, 2);
        return x;
    }

    private static void gather() {
        Book x = book();
        int[][] wrong = {
            {-1, 0, 1, 1}, {8, 0, 1, 1}, {1, -1, 1, 1}, {1, 4, 1, 1}, {1, 0, 0, 1}, {1, 0, -1, 1},
            {1, 0, 256, 1}, {1, 0, 1, 0}, {1, 0, 1, -1}, {1, 0, 1, MIN}, {1, 0, 1, MIN | 1},
            {1, 0, 1, 128}, {1, 0, 1, 1 << 20 | 1}, {1, 0, 1, 1 << 30}, {1, 0, 1, 33}, {1, 0, 1, 64},
            {2, 0, 1, 1}, {2, 0, 1, 65}, {1, 0, 1, 66}, {1, MAX, 1, 1}, {1, 0, MAX, 1}, {MIN, 0, 1, 1}};
        for (int[] w : wrong) {
            Check.due("wrong gather " + w[3], NONE, x.gather(w[0], w[1], w[2], w[3]));
        }
        Check.due("none written down", 0, x.look(3));
        Check.due("none seen", 0, x.seen(0, 0, 0));
        Check.due("all five", 0, x.gather(1, 0, 255, 31));
        Check.due("another season than the thing's", 1, x.gather(1, 3, 1, 1));
        x.lend(6, 1);
        Check.due("a lent one with its keeper", 2, x.gather(1, 0, 1, 65));
        Check.due("a lent one with its owner", NONE, x.gather(2, 0, 1, 64));
        x.back(6);
        Check.due("back with its owner", 3, x.gather(2, 0, 1, 64));
        x.burn(0);
        Check.due("a burnt one", NONE, x.gather(1, 0, 1, 1));
        Check.due("a burnt one with another", NONE, x.gather(1, 0, 1, 5));
        Check.rules(x, "bar 1=1;");
        Check.due("a barred set", 4, x.gather(1, 0, 1, 4));
    }

    private static void mostGatherings() {
        Book x = book();
        for (int i = 0; i < 60; i++) {
            Check.due("gathering " + i, i, x.gather(1, 0, 1, 1));
        }
        Check.due("the 61st", NONE, x.gather(1, 0, 1, 3));
        Check.due("still 60", 60, x.look(3));
        Check.due("the last of them", 1, x.gathering(59, 4));
        Check.due("none behind", NONE, x.gathering(60, 4));
        Check.due("all of them seen", 60, x.seen(0, 0, 0));
        Check.due("again for each", 600, x.again(1, 1));
        Check.due("the 61st was not seen", 0, x.again(1, 3));
    }

    private static void gathering() {
        Book x = book();
        x.days(3);
        x.gather(1, 2, 0x81, 6);
        x.days(3);
        x.gather(1, 3, 255, 32);
        int[][] want = {{1, 3, 2, 0x81, 6}, {1, 6, 3, 255, 32}};
        for (int i = 0; i < 2; i++) {
            for (int what = 0; what < 5; what++) {
                Check.due("gathering " + i + " " + what, want[i][what], x.gathering(i, what));
            }
        }
        Check.due("what 5", NONE, x.gathering(0, 5));
        Check.due("what -1", NONE, x.gathering(0, -1));
        Check.due("what max", NONE, x.gathering(0, MAX));
        Check.due("gathering 2", NONE, x.gathering(2, 0));
        Check.due("gathering -1", NONE, x.gathering(-1, 0));
        Check.due("gathering min", NONE, x.gathering(MIN, 0));
    }

    private static void seen() {
        Book x = book();
        x.gather(1, 0, 3, 7);
        x.gather(1, 0, 2, 3);
        x.gather(1, 0, 128, 34);
        Check.due("both by 0", 1, x.seen(0, 0, 1));
        Check.due("both by 1", 2, x.seen(1, 0, 1));
        Check.due("the other way round", 2, x.seen(1, 1, 0));
        Check.due("two of them once", 1, x.seen(1, 2, 0));
        Check.due("one alone", 2, x.seen(1, 1, 1));
        Check.due("by 7", 1, x.seen(7, 5, 1));
        Check.due("not by 7", 0, x.seen(7, 0, 1));
        Check.due("two bowls, never", 0, x.seen(1, 0, 5));
        x.burn(0);
        Check.due("burnt, but seen", 2, x.seen(1, 0, 1));
        Check.due("guest 8", NONE, x.seen(8, 0, 1));
        Check.due("guest -1", NONE, x.seen(-1, 0, 1));
        Check.due("thing 7", NONE, x.seen(0, 7, 1));
        Check.due("thing 7 behind", NONE, x.seen(0, 1, 7));
        Check.due("thing -1", NONE, x.seen(0, -1, 1));
        Check.due("thing -1 behind", NONE, x.seen(0, 1, -1));
        Check.due("thing max", NONE, x.seen(0, MAX, MAX));
    }

    private static void again() {
        Book x = book();
        Check.due("nothing yet", 0, x.again(255, 31));
        x.gather(1, 0, 3, 7);
        x.gather(1, 0, 6, 3);
        x.gather(1, 0, 6, 3);
        x.gather(1, 0, 8, 4);
        Check.due("three pairs and the set", 13, x.again(1, 7));
        Check.due("two guests", 26, x.again(3, 7));
        Check.due("guest 2 has seen one pair", 1, x.again(4, 7));
        Check.due("a pair counts once, the set twice", 21, x.again(4, 3));
        Check.due("guests 0 and 2", 1 + 21, x.again(5, 3));
        Check.due("all of them", 1 + 21 + 21, x.again(255, 3));
        Check.due("one thing alone, just this", 10, x.again(8, 4));
        Check.due("one thing alone, within others", 0, x.again(1, 4));
        Check.due("pairs within a greater set", 3, x.again(1, 31));
        Check.due("another bowl", 1, x.again(1, 32 | 6));
        Check.due("of two houses", 0, x.again(1, 64 | 1));
        x.burn(0);
        Check.due("with a burnt one", 13, x.again(1, 7));
        int[][] wrong = {{0, 7}, {-1, 7}, {256, 7}, {1, 0}, {1, -1}, {1, MIN}, {1, 33}, {1, 66}, {1, 128},
            {1, 129}, {1, 1 << 20}, {1, 1 << 30 | 1}, {MIN, 1}, {MAX, 1}};
        for (int[] w : wrong) {
            Check.due("again(" + w[0] + ", " + w[1] + ")", NONE, x.again(w[0], w[1]));
        }
    }
}
