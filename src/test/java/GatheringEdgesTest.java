/** The edges that the terms and the promises 13 to 16 name, a sentence each. */
public final class GatheringEdgesTest {
    private static final int NONE = TeaBook.NONE;
    private static final int MIN = Integer.MIN_VALUE;
    private static final int MAX = Integer.MAX_VALUE;
    private static final Edge BUSY = new Edge(Scenes::busy);

    /** Sets that can't be among the nine things of the busy scene: none, of things that did not come, two of a kind. */
    static final int[] NO_SETS = {
        0, 512, 1 | 512, 1 << 19, 1 << 20, 1 << 21 | 1, 1 << 30, 1 << 30 | 1, MIN, MIN | 1, MIN | 512, -1, -2, MAX,
        511, 1 | 64, 1 | 32, 32 | 64, 1 | 4, 2 | 16, 1 | 2 | 8 | 64, 1 | 2 | 8 | 128 | 256 | 64};

    public static void main(String[] args) {
        house();
        seasonAndGuests();
        set();
        setOfTheHouse();
        fitIsNotAsked();
        sixtyGatherings();
        gathering();
        seen();
        seenMost();
        again();
        againMost();
        Check.finish();
    }

    private static void house() {
        Check.sentence("13: NONE, and nothing is done: no such HOUSE");
        Edge edge = new Edge(Scenes::everywhere);
        for (int house = 0; house < 8; house++) {
            Book x = edge.takes(0, "gather", house, 0, 1, 1 << house);
            Check.due("its house", house, x.gathering(0, 0));
        }
        for (int house : Edge.beyond(0, 7)) {
            edge.refuses("gather", house, 0, 1, 1);
            edge.refuses("gather", house, 0, 1, 128);
        }
    }

    private static void seasonAndGuests() {
        Check.sentence("13: NONE, and nothing is done: no such SEASON, no such GUESTS, or none");
        BUSY.range(1, 0, 3, "gather", 1, 2, 6, 3);
        BUSY.range(2, 1, 255, "gather", 1, 2, 6, 3);
        int[][] taken = {{0, 1}, {3, 255}, {0, 128}};
        for (int[] t : taken) {
            Book x = BUSY.takes(5, "gather", 1, t[0], t[1], 3);
            Check.due("its season", t[0], x.gathering(5, 2));
            Check.due("its guests", t[1], x.gathering(5, 3));
            Check.due("seen by guest 0", (t[1] & 1) + 2, x.seen(0, 0, 1));
            Check.due("seen by guest 7", (t[1] >> 7) + 1, x.seen(7, 0, 1));
        }
    }

    private static void set() {
        Check.sentence("13: NONE, and nothing is done: no SET (at most one THING of each KIND, one at least)");
        for (int set : NO_SETS) {
            BUSY.refuses("gather", 1, 0, 1, set);
        }
        for (int set : new int[] {1, 256, 1 | 256, 1 | 2 | 8 | 128 | 256}) {
            Book x = BUSY.takes(5, "gather", 1, 0, 1, set);
            Check.due("its set", set, x.gathering(5, 4));
            Check.due("gatherings", 6, x.look(3));
        }
        Edge twenty = new Edge(() -> Scenes.things(20));
        Check.due("the last thing", 1 << 19, twenty.takes(0, "gather", 0, 0, 1, 1 << 19).gathering(0, 4));
        Check.due("the last of each kind", 31 << 15, twenty.takes(0, "gather", 0, 0, 1, 31 << 15).gathering(0, 4));
        for (int set : new int[] {1 << 20, 1 << 20 | 1 << 19, 1 << 19 | 1 << 14, (1 << 20) - 1, 63 << 14, MIN | 1 << 19}) {
            twenty.refuses("gather", 0, 0, 1, set);
        }
    }

    private static void setOfTheHouse() {
        Check.sentence("13: NONE, and nothing is done: one not there");
        for (int set : new int[] {4, 16, 2 | 4, 1 | 16, 8 | 4, 16 | 4}) {
            BUSY.refuses("gather", 1, 0, 1, set);
            BUSY.refuses("gather", 6, 0, 1, set);
        }
        Check.sentence("13: NONE, and nothing is done: one not KEPT by the HOUSE");
        int[][] wrong = {{1, 32}, {1, 2 | 32}, {2, 8}, {2, 8 | 32}, {2, 1}, {2, 2 | 32}, {0, 1}, {7, 256}, {4, 256}, {3, 128}};
        for (int[] w : wrong) {
            BUSY.refuses("gather", w[0], 0, 1, w[1]);
        }
        BUSY.takes(5, "gather", 1, 0, 1, 8);
        BUSY.takes(5, "gather", 2, 0, 1, 32);
    }

    private static void fitIsNotAsked() {
        Check.sentence("13: whether it FITS is not asked");
        BUSY.asks(0, "barred", 3, 1, 1);
        BUSY.takes(5, "gather", 1, 3, 1, 1);
        BUSY.asks(9, "of", 7, 3);
        BUSY.takes(5, "gather", 1, 1, 1, 128);
    }

    private static void sixtyGatherings() {
        Check.sentence("13: NONE, and nothing is done: there are 60");
        Book x = new Edge(() -> Scenes.gatherings(59)).takes(59, "gather", 1, 2, 4, 28);
        int[] want = {1, 0, 2, 4, 28};
        for (int what = 0; what < want.length; what++) {
            Check.due("gathering(59, " + what + ")", want[what], x.gathering(59, what));
        }
        Check.due("behind it", NONE, x.gather(1, 2, 4, 28));
        Check.due("look(3)", 60, x.look(3));
        Edge sixty = new Edge(() -> Scenes.gatherings(60));
        sixty.refuses("gather", 1, 0, 255, 3);
        sixty.refuses("gather", 1, 2, 4, 28);
        Check.sentence("14: NONE if there is none such");
        sixty.range(0, 0, 59, "gathering", 0, 4);
    }

    private static void gathering() {
        Check.sentence("14: NONE if there is none such");
        for (int what = 0; what < 5; what++) {
            BUSY.range(0, 0, 4, "gathering", 2, what);
        }
        Check.sentence("14: NONE if another what");
        BUSY.range(1, 0, 4, "gathering", 0, 2);
        BUSY.range(1, 0, 4, "gathering", 4, 2);
        int[][] want = {{1, 10, 0, 3, 11}, {1, 15, 1, 129, 3}, {1, 20, 3, 255, 448}, {2, 20, 0, 4, 32}, {1, 20, 0, 2, 10}};
        for (int i = 0; i < want.length; i++) {
            for (int what = 0; what < 5; what++) {
                BUSY.asks(want[i][what], "gathering", i, what);
            }
        }
    }

    private static void seen() {
        Check.sentence("15: NONE if one can't be");
        BUSY.range(0, 0, 7, "seen", 1, 0, 1);
        BUSY.range(1, 0, 8, "seen", 1, 0, 1);
        BUSY.range(2, 0, 8, "seen", 1, 0, 1);
        for (int t : Edge.beyond(0, 8)) {
            BUSY.refuses("seen", 0, t, t);
        }
        Check.sentence("15: how often GUEST g has seen THINGS a and b together (a, a: THING a)");
        int[][] want = {
            // guest, a, b, how often
            {0, 0, 1, 2}, {0, 1, 0, 2}, {0, 0, 0, 2}, {1, 1, 3, 2}, {1, 1, 1, 2}, {1, 3, 3, 2}, {1, 0, 3, 1}, {7, 0, 1, 1},
            {7, 8, 8, 1}, {7, 6, 8, 1}, {7, 8, 6, 1}, {2, 5, 5, 1}, {2, 0, 0, 0}, {3, 5, 5, 0}, {0, 2, 2, 0}, {0, 0, 6, 0}};
        for (int[] w : want) {
            BUSY.asks(w[3], "seen", w[0], w[1], w[2]);
        }
    }

    private static void seenMost() {
        Check.sentence("15: how often, up to the last of 60 GATHERINGS");
        for (int count : new int[] {1, 59, 60}) {
            Book x = Scenes.gatherings(count);
            for (int g = 0; g < 8; g++) {
                Check.due("seen(" + g + ", 0, 1)", count, x.seen(g, 0, 1));
                Check.due("seen(" + g + ", 1, 1)", count, x.seen(g, 1, 1));
                Check.due("seen(" + g + ", 1, 2)", 0, x.seen(g, 1, 2));
            }
        }
    }

    private static void again() {
        Check.sentence("16: NONE if one can't be (GUESTS)");
        BUSY.range(0, 1, 255, "again", 3, 3);
        Check.sentence("16: NONE if one can't be (a set of THINGS that came, at most one of a KIND, one at least)");
        for (int set : NO_SETS) {
            BUSY.refuses("again", 1, set);
            BUSY.refuses("again", 255, set);
        }
        int[][] want = {
            // guests, set, again
            {1, 1, 0}, {1, 256, 0}, {255, 395, 3 + 2 + 2 + 8}, {4, 32, 10}, {8, 32, 0}, {1, 3, 11}, {2, 3, 1},
            {255, 3, 3 + 20}, {255, 448, 24 + 80}, {128, 448, 13}, {255, 4, 0}, {255, 4 | 2, 0}, {255, 16 | 32, 0},
            {2, 10, 11}, {3, 10, 12}, {255, 11, 3 + 2 + 2 + 20}};
        for (int[] w : want) {
            BUSY.asks(w[2], "again", w[0], w[1]);
        }
    }

    private static void againMost() {
        Check.sentence("Terms: the PAIRS that each has seen (once or oftener), and 10 more for each GATHERING of just this SET");
        Book x = new Book();
        for (int kind = 0; kind < 5; kind++) {
            x.thing(kind, 1, 1, 15, 1);
        }
        for (int i = 0; i < 60; i++) {
            Check.due("all five for all", i, x.gather(1, 0, 255, 31));
            Check.due("again for one", 10 + 10 * (i + 1), x.again(128, 31));
            Check.due("again for all", 8 * (10 + 10 * (i + 1)), x.again(255, 31));
        }
        Check.due("two of them", 8, x.again(255, 3));
        Check.due("four of them", 8 * 6, x.again(255, 30));
        Check.due("one of them", 0, x.again(255, 16));
    }
}
