/** The edges that the terms and the promises 17 to 22 name, a sentence each. */
public final class RuleEdgesTest {
    private static final int NONE = TeaBook.NONE;
    private static final int MIN = Integer.MIN_VALUE;
    private static final int MAX = Integer.MAX_VALUE;
    private static final Edge BUSY = new Edge(Scenes::busy);

    public static void main(String[] args) {
        feed();
        feedAnyNumber();
        end();
        tapeIsEmptyThen();
        rulesStay();
        emptyText();
        fault();
        barred();
        barredByFirst();
        best();
        bestOfNone();
        bestOfTheSeason();
        bestFromDayToDay();
        bestOfMost();
        bestAmongEquals();
        Check.finish();
    }

    private static void feed() {
        Check.sentence("17: how many it has");
        Check.due("tape", 20, Edge.tapeLength(new Edge(() -> Scenes.tape(0)).takes(20, "feed", 0, 0, 0, 0, 0)));
        Check.due("tape", 599, Edge.tapeLength(new Edge(() -> Scenes.tape(579)).takes(599, "feed", 0, 0, 0, 0, 0)));
        Check.due("tape", 600, Edge.tapeLength(new Edge(() -> Scenes.tape(580)).takes(600, "feed", 0, 0, 0, 0, 0)));
        Check.sentence("17: NONE, and nothing comes, if there would be more than 600");
        for (int length : new int[] {581, 590, 599, 600}) {
            Edge edge = new Edge(() -> Scenes.tape(length));
            edge.refuses("feed", 0, 0, 0, 0, 0);
            edge.refuses("feed", MIN, MAX, -1, 1, 0x3b3b3b3b);
        }
    }

    /** A sign at one place of twenty, blanks at the others: its place is told by the fault. */
    private static void feedAnyNumber() {
        Check.sentence("17: twenty bytes come, of each number the highest first");
        for (int place = 0; place < 20; place++) {
            for (char c : new char[] {';', 0, 127, 128, 255}) {
                Check.fails(" ".repeat(place) + c + " ".repeat(19 - place), 1, place);
            }
        }
        int[][] numbers = {{MIN, 0}, {MAX, 0}, {-1, 0}, {0, 0}, {0x20202080, 3}, {0x200a20ff, 3}, {0x0a0a7f20, 2}, {0x20ff0a20, 1}};
        for (int[] n : numbers) {
            Book x = new Book();
            Check.due("feed", 20, x.feed(n[0], n[0], n[0], n[0], n[0]));
            Check.due("rules", NONE, x.rules());
            Check.due("fault", 1, x.fault(0));
            Check.due("place", n[1], x.fault(1));
        }
    }

    private static void end() {
        Check.sentence("18: the TAPE has its first n bytes alone: true");
        for (int n : new int[] {0, 1, 8, 24}) {
            Check.due("tape", n, Edge.tapeLength(BUSY.takes(1, "end", n)));
        }
        Check.due("rules of the first 8", 1, BUSY.takes(1, "end", 8).rules());
        BUSY.asks(1, "end", Scenes.TAPE.length());
        Check.sentence("18: false, changing nothing, if it has not so many, or n is below 0");
        BUSY.range(0, 0, Scenes.TAPE.length(), "end", 3);
        Edge empty = new Edge(() -> Scenes.tape(0));
        empty.asks(1, "end", 0);
        empty.range(0, 0, 0, "end", 0);
        Edge full = new Edge(() -> Scenes.tape(600));
        full.asks(1, "end", 600);
        full.range(0, 0, 600, "end", 0);
        Check.sentence("18: what was cut off does not come again");
        Book x = BUSY.takes(1, "end", 8);
        Check.due("end 9", false, x.end(9));
        Check.due("feed", 28, x.feed(0x20202020, 0x20202020, 0x20202020, 0x20202020, 0x20202020));
        Check.due("one rule alone", 1, x.rules());
    }

    private static void tapeIsEmptyThen() {
        Check.sentence("19: the TAPE, empty then");
        Book good = BUSY.takes(2, "rules");
        Check.due("end 1", false, good.end(1));
        Check.due("end 0", true, good.end(0));
        Check.due("tape", 0, Edge.tapeLength(good));
        Book bad = BUSY.takes(1, "end", 24);
        Check.due("a fault", NONE, bad.rules());
        Check.due("end 1", false, bad.end(1));
        Check.due("tape", 0, Edge.tapeLength(bad));
        Book full = new Edge(() -> Scenes.tape(600)).takes(1, "rules");
        Check.due("feed", 20, full.feed(0, 0, 0, 0, 0));
    }

    /** The last text is the one that the scene had its fault of, so that all else must be as it was. */
    private static void rulesStay() {
        Check.sentence("19: NONE: a FAULT (they stay)");
        Edge edge = new Edge(() -> {
            Book x = Scenes.busy();
            x.end(0);
            return x;
        });
        String[] texts = {
            "bar", ";", "bar 1=1", "bar 1=1; bar", "bar 1=1; bar 1=1; bar 1=1; x", "bar 1=1;".repeat(13),
            "bar 1=1; bar " + "(".repeat(9), "bar 1=1; bar " + "not ".repeat(9) + "1=1;", ";".repeat(600),
            "bar 1=1" + " or 1=1".repeat(84) + " or"};
        for (String text : texts) {
            edge.unchangedBy("rules of '" + text + "'", x -> {
                Check.due("rules of '" + text + "'", NONE, Check.rules(x, text));
                Check.due("rules of 'bar ;'", NONE, Check.rules(x, "bar ;"));
            });
        }
        Check.sentence("19: without a FAULT they don't");
        Book x = BUSY.takes(1, "end", 0);
        Check.due("twelve", 12, Check.rules(x, "bar 1=2;".repeat(11) + "bar 1=1;"));
        Check.due("look(4)", 12, x.look(4));
        Check.due("the last bars", 11, x.barred(3, 1, 1));
        Check.due("one", 1, Check.rules(x, "bar 1=2;"));
        Check.due("look(4)", 1, x.look(4));
        Check.due("nothing is left of the twelve", NONE, x.barred(3, 1, 1));
    }

    private static void emptyText() {
        Check.sentence("Terms: a TEXT = {bar E ;}, so none is one too");
        for (String text : new String[] {"", " ", "\n", " ".repeat(600), "\n".repeat(599)}) {
            Check.passes(text, 0);
        }
        Book x = BUSY.takes(1, "end", 0);
        Check.due("rules", 0, x.rules());
        Check.due("look(4)", 0, x.look(4));
        Check.due("no rule is left", NONE, x.barred(3, 1, 1));
        Check.due("fault(0)", 0, x.fault(0));
        Check.due("fault(1)", NONE, x.fault(1));
    }

    private static void fault() {
        Check.sentence("20: NONE for another what");
        BUSY.range(0, 0, 1, "fault", 0);
        Check.sentence("20: what 0 the FAULT (0 without one), 1 its place (NONE)");
        BUSY.asks(1, "fault", 0);
        BUSY.asks(4, "fault", 1);
        Edge good = new Edge(() -> {
            Book x = Scenes.busy();
            x.rules();
            return x;
        });
        good.asks(0, "fault", 0);
        good.asks(NONE, "fault", 1);
        for (int what : Edge.beyond(0, 1)) {
            good.refuses("fault", what);
        }
        Check.sentence("20: of the latest rules(), whatever is fed later");
        Book x = BUSY.takes(45, "feed", 0, 0, 0, 0, 0);
        x.end(0);
        Check.due("fault(0)", 1, x.fault(0));
        Check.due("fault(1)", 4, x.fault(1));
    }

    private static void barred() {
        Check.sentence("21: NONE - 1 if one can't be (SEASON, GUESTS)");
        BUSY.range(0, 0, 3, "barred", 1, 3, 1);
        BUSY.range(1, 1, 255, "barred", 1, 3, 1);
        Check.sentence("21: NONE - 1 if one can't be (as in again())");
        for (int set : GatheringEdgesTest.NO_SETS) {
            BUSY.refuses("barred", 0, 1, set);
            BUSY.refuses("barred", 3, 255, set);
        }
        Check.sentence("21: the RULE; NONE: by none");
        int[][] want = {
            // season, guests, set, rule
            {3, 1, 1, 0}, {3, 255, 256, 0}, {2, 1, 1, NONE}, {0, 255, 1, NONE}, {0, 1, 64, NONE}, {0, 1, 64 | 128, 1},
            {0, 1, 128, 1}, {3, 1, 64 | 128, 0}, {0, 1, 1 | 128, NONE}, {0, 1, 32 | 128, NONE}, {0, 1, 4, NONE},
            {3, 1, 4, 0}, {0, 1, 16 | 128, 1}, {0, 1, 395, NONE}};
        for (int[] w : want) {
            BUSY.asks(w[3], "barred", w[0], w[1], w[2]);
        }
    }

    private static void barredByFirst() {
        Check.sentence("Terms: BARRED by the first RULE whose E is so");
        for (int first = 0; first <= 12; first++) {
            Book x = Scenes.everywhere();
            String text = "bar 1=2;".repeat(first) + "bar 1=1;".repeat(12 - first);
            Check.due("rules", 12, Check.rules(x, text));
            Check.due("the first of " + first, first == 12 ? NONE : first, x.barred(0, 1, 1));
        }
    }

    private static void bestIs(Book x, Call best, int... want) {
        for (int what = 0; what < want.length; what++) {
            Call call = best.with(4, what);
            Check.due(call.toString(), want[what], call.on(x));
        }
    }

    private static void best() {
        Check.sentence("22: NONE: one can't be, or another what");
        Edge everywhere = new Edge(Scenes::everywhere);
        Edge twenty = new Edge(() -> Scenes.things(20));
        for (int what = 0; what < 4; what++) {
            everywhere.range(0, 0, 7, "best", 0, 0, 1, 1, what);
            everywhere.range(1, 0, 3, "best", 0, 0, 1, 1, what);
            everywhere.range(2, 1, 255, "best", 0, 0, 1, 1, what);
            twenty.range(3, 1, 31, "best", 0, 0, 1, 1, what);
        }
        everywhere.range(4, 0, 3, "best", 7, 3, 255, 1, 0);
        Check.sentence("22: NONE for another what, also if none FITS");
        everywhere.range(4, 0, 3, "best", 0, 0, 1, 1, 0);
        for (int what : Edge.beyond(0, 3)) {
            everywhere.refuses("best", 0, 0, 1, 2, what);
        }
        Check.sentence("22: a set of KINDS that is told (not empty)");
        for (int kinds : new int[] {0, 32, 33, 63, MIN | 1, -1, MAX}) {
            everywhere.refuses("best", 0, 0, 1, kinds, 0);
            twenty.refuses("best", 0, 0, 1, kinds, 3);
        }
        for (int house = 0; house < 8; house++) {
            bestIs(Scenes.everywhere(), new Call("best", house, 3, 255, 1, 0), 1 << house, 0, house, 1);
        }
    }

    private static void bestOfNone() {
        Check.sentence("22: NONE: none FITS");
        for (int what = 0; what < 4; what++) {
            BUSY.refuses("best", 0, 0, 1, 1, what);
            BUSY.refuses("best", 6, 0, 1, 1, what);
            BUSY.refuses("best", 2, 0, 1, 4, what);
            BUSY.refuses("best", 1, 3, 1, 1, what);
            BUSY.refuses("best", 1, 1, 1, 8, what);
            BUSY.refuses("best", 4, 1, 1, 16, what);
            BUSY.refuses("best", 2, 0, 1, 3, what);
            BUSY.refuses("best", 1, 0, 1, 8, what);
        }
        Check.sentence("22: one FITS");
        bestIs(Scenes.busy(), new Call("best", 1, 0, 1, 4, 0), 8, 0, 6, 1);
        bestIs(Scenes.busy(), new Call("best", 2, 0, 4, 1, 0), 32, 10, 3, 1);
        bestIs(Scenes.busy(), new Call("best", 1, 0, 255, 9, 0), 129, 0, 13, 1);
        bestIs(Scenes.busy(), new Call("best", 1, 2, 255, 16, 0), 256, 0, 1, 1);
        bestIs(Scenes.busy(), new Call("best", 1, 2, 255, 7, 0), 74, 2, 12, 2);
    }

    private static void bestOfTheSeason() {
        Check.sentence("Terms: FIT: each of its THINGS of that SEASON");
        for (int seasons = 1; seasons <= 15; seasons++) {
            Book x = new Book();
            x.thing(0, 9, 9, seasons, 0);
            x.thing(1, 9, 9, 15, 0);
            for (int season = 0; season < 4; season++) {
                boolean fits = (seasons & 1 << season) != 0;
                Check.due("alone", fits ? 1 : NONE, x.best(0, season, 1, 1, 0));
                Check.due("with another", fits ? 3 : NONE, x.best(0, season, 1, 3, 0));
                Check.due("the other alone", 2, x.best(0, season, 1, 2, 0));
            }
        }
    }

    private static void bestFromDayToDay() {
        Check.sentence("Terms: FIT: there, KEPT by the HOUSE, and not BARRED, as it is now");
        Book x = new Book();
        x.thing(0, 9, 9, 15, 0);
        Check.rules(x, "bar age bowl>1; bar guests>7;");
        Call call = new Call("best", 0, 0, 127, 1, 0);
        bestIs(x, call, 1, 0, 9, 1);
        bestIs(x, call.with(2, 255), NONE, NONE, NONE, NONE);
        x.days(1);
        bestIs(x, call, 1, 0, 9, 1);
        x.days(1);
        bestIs(x, call, NONE, NONE, NONE, NONE);
        x.copy(0, 1, 0);
        bestIs(x, call, 2, 0, 1, 1);
        x.lend(1, 7);
        bestIs(x, call, NONE, NONE, NONE, NONE);
        bestIs(x, call.with(0, 7), 2, 0, 1, 1);
        x.back(1);
        bestIs(x, call, 2, 0, 1, 1);
        bestIs(x, call.with(0, 7), NONE, NONE, NONE, NONE);
        x.burn(1);
        bestIs(x, call, NONE, NONE, NONE, NONE);
    }

    private static void bestOfMost() {
        Check.sentence("22: how many SETS FIT, found among all");
        Book x = new Book();
        for (int t = 0; t < 20; t++) {
            x.thing(t % 5, 9, 9, 15, 0);
        }
        bestIs(x, new Call("best", 0, 0, 255, 31, 0), 31, 0, 45, 1024);
        bestIs(x, new Call("best", 0, 0, 255, 30, 0), 30, 0, 36, 256);
        bestIs(x, new Call("best", 0, 0, 255, 16, 0), 16, 0, 9, 4);
        Book bowls = new Book();
        for (int t = 0; t < 20; t++) {
            bowls.thing(0, t == 19 ? 9 : 8, 9, 15, 0);
        }
        bestIs(bowls, new Call("best", 0, 0, 1, 1, 0), 1 << 19, 0, 9, 20);
        bowls.gather(0, 0, 1, 1 << 19);
        bestIs(bowls, new Call("best", 0, 0, 1, 1, 0), 1, 0, 8, 20);
        bestIs(bowls, new Call("best", 0, 0, 2, 1, 0), 1 << 19, 0, 9, 20);
        for (int t = 0; t < 19; t++) {
            bowls.gather(0, 0, 255, 1 << t);
        }
        bestIs(bowls, new Call("best", 0, 0, 255, 1, 0), 1 << 19, 10, 9, 20);
    }

    private static void bestAmongEquals() {
        Check.sentence("Terms: of these the first by its THINGS in the order of KINDS (the lesser first)");
        Book x = new Book();
        int[] kinds = {4, 3, 2, 1, 0, 0, 1, 2, 3, 4};
        for (int kind : kinds) {
            x.thing(kind, 5, 5, 15, 0);
        }
        bestIs(x, new Call("best", 0, 0, 1, 31, 0), 31, 0, 25, 32);
        x.gather(0, 0, 1, 31);
        // Of all that share no pair with the five, none has two of them: one alone, with the bowl lesser first.
        bestIs(x, new Call("best", 0, 0, 1, 31, 0), 1 << 4 | 1 << 6 | 1 << 7 | 1 << 8 | 1 << 9, 0, 25, 32);
        Check.sentence("Terms: the least AGAIN before the greatest sum of RANKS");
        Book y = new Book();
        y.thing(0, 9, 0, 15, 0);
        y.thing(0, 0, 0, 15, 0);
        y.gather(0, 0, 1, 1);
        bestIs(y, new Call("best", 0, 0, 1, 1, 0), 2, 0, 0, 2);
        y.gather(0, 0, 1, 2);
        bestIs(y, new Call("best", 0, 0, 1, 1, 0), 1, 10, 9, 2);
    }
}
