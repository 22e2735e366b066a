/** The edges that the terms and the promises 1 to 12 name, a sentence each. */
public final class ThingEdgesTest {
    private static final int NONE = TeaBook.NONE;
    private static final int MIN = Integer.MIN_VALUE;
    private static final int MAX = Integer.MAX_VALUE;
    private static final Edge BUSY = new Edge(Scenes::busy);

    public static void main(String[] args) {
        newObject();
        thing();
        thingAtBothEnds();
        twentyThings();
        copy();
        copyOfWhatIsThere();
        copiesOfCopies();
        pass();
        lend();
        back();
        burn();
        acts();
        actsThatAreRefused();
        days();
        lastDay();
        look();
        of();
        ofWhatIsBurnt();
        inDoubt();
        held();
        heldFromDayToDay();
        owners();
        mostOwners();
        Check.finish();
    }

    private static void newObject() {
        Check.sentence("1: DAY 0, no THINGS, no RULES");
        Edge edge = new Edge(Book::new);
        for (int what = 0; what <= 4; what++) {
            edge.asks(0, "look", what);
        }
        edge.asks(0, "fault", 0);
        edge.asks(NONE, "fault", 1);
        for (int t : new int[] {0, 19, 20, -1, MIN, MAX}) {
            edge.refuses("of", t, 0);
            edge.refuses("of", t, 7);
            edge.refuses("held", t, 0, 0);
            edge.refuses("owners", t, -1);
            edge.refuses("seen", 0, t, t);
            edge.refuses("copy", t, 1, 1);
            edge.refuses("pass", t, 1);
            edge.refuses("lend", t, 1);
            edge.refuses("back", t);
            edge.refuses("burn", t);
            edge.refuses("gathering", t, 0);
        }
        edge.refuses("gather", 0, 0, 1, 1);
        edge.refuses("again", 1, 1);
        edge.refuses("barred", 0, 1, 1);
        edge.refuses("best", 0, 0, 1, 1, 3);
        edge.asks(1, "end", 0);
        edge.refuses("end", 1);
        edge.takes(0, "thing", 0, 0, 0, 1, 0);
    }

    private static void thing() {
        Check.sentence("2: NONE, and nothing is done, if one can't be");
        int[][] ranges = {{0, 4}, {0, 9}, {0, 9}, {1, 15}, {0, 7}};
        for (int place = 0; place < ranges.length; place++) {
            BUSY.range(place, ranges[place][0], ranges[place][1], "thing", 2, 3, 4, 5, 6);
        }
        BUSY.refuses("thing", -1, -1, -1, 0, -1);
        BUSY.refuses("thing", 5, 10, 10, 16, 8);
    }

    private static void shows(Book x, int t, int... want) {
        for (int what = 0; what < want.length; what++) {
            Check.due("of(" + t + ", " + what + ")", want[what], x.of(t, what));
        }
    }

    private static void keptBy(Book x, int t, int house) {
        int now = x.look(0);
        Check.due("owner of " + t, house, x.held(t, now, 0));
        Check.due("keeper of " + t, house, x.held(t, now, 1));
        Check.due("owners of " + t, 1, x.owners(t, -1));
        Check.due("first owner of " + t, house, x.owners(t, 0));
    }

    private static void thingAtBothEnds() {
        Check.sentence("2: a THING comes to a HOUSE: its number");
        Book least = BUSY.takes(9, "thing", 0, 0, 0, 1, 0);
        shows(least, 9, 0, 0, 0, 1, 20, NONE, 9, 1, 0);
        keptBy(least, 9, 0);
        Book greatest = BUSY.takes(9, "thing", 4, 9, 9, 15, 7);
        shows(greatest, 9, 4, 9, 9, 15, 20, NONE, 9, 1, 0);
        keptBy(greatest, 9, 7);
        Check.due("came", 10, greatest.look(1));
        Check.due("there", 8, greatest.look(2));
    }

    private static void twentyThings() {
        Check.sentence("2: NONE, and nothing is done, if there are 20");
        Edge nineteen = new Edge(() -> Scenes.things(19));
        shows(nineteen.takes(19, "thing", 1, 2, 3, 4, 5), 19, 1, 2, 3, 4, 0, NONE, 19, 1, 0);
        Edge twenty = new Edge(() -> Scenes.things(20));
        twenty.refuses("thing", 1, 2, 3, 4, 5);
        Check.sentence("3: NONE, and nothing is done: there are 20");
        shows(nineteen.takes(19, "copy", 18, 2, 5), 19, 3, 2, 8, 15, 0, 18, 18, 1, 1);
        twenty.refuses("copy", 0, 2, 5);
        twenty.refuses("copy", 19, 2, 5);
        Check.sentence("Terms: THINGS 0 .. 19");
        twenty.asks(4, "of", 19, 0);
        twenty.refuses("of", 20, 0);
        Edge burnt = new Edge(() -> {
            Book x = Scenes.things(20);
            x.burn(0);
            x.burn(19);
            return x;
        });
        Check.sentence("2, 3: the BURNT ones came too, so there still are 20");
        burnt.refuses("thing", 1, 2, 3, 4, 5);
        burnt.refuses("copy", 1, 2, 5);
        burnt.asks(20, "look", 1);
        burnt.asks(18, "look", 2);
    }

    private static void copy() {
        Check.sentence("3: NONE, and nothing is done: one can't be");
        BUSY.range(1, 0, 9, "copy", 0, 5, 3);
        BUSY.range(2, 0, 7, "copy", 0, 5, 3);
        Check.sentence("3: NONE, and nothing is done: none such is there");
        BUSY.range(0, 0, 8, "copy", 0, 5, 3);
        BUSY.refuses("copy", 2, 5, 3);
        BUSY.refuses("copy", 4, 5, 3);
    }

    private static void copyOfWhatIsThere() {
        Check.sentence("3: a COPY of its KIND, TONE, SEASONS, with a RANK");
        Book least = BUSY.takes(9, "copy", 0, 0, 0);
        shows(least, 9, 0, 0, 3, 15, 20, 0, 0, 1, 1);
        keptBy(least, 9, 0);
        Book greatest = BUSY.takes(9, "copy", 8, 9, 7);
        shows(greatest, 9, 4, 9, 1, 6, 20, 8, 8, 1, 1);
        keptBy(greatest, 9, 7);
        Book lent = BUSY.takes(9, "copy", 3, 1, 1);
        shows(lent, 9, 2, 1, 9, 15, 20, 3, 3, 1, 0);
        keptBy(lent, 9, 1);
    }

    private static void copiesOfCopies() {
        Check.sentence("Terms: ROOT of a THING: itself, or the ROOT of that of which it is a COPY");
        Book x = new Book();
        x.thing(0, 1, 1, 1, 0);
        for (int t = 1; t < 20; t++) {
            Check.due("copy of " + (t - 1), t, x.copy(t - 1, 1, 0));
        }
        for (int t = 0; t < 20; t++) {
            Check.due("model of " + t, t == 0 ? NONE : t - 1, x.of(t, 5));
            Check.due("root of " + t, 0, x.of(t, 6));
            Check.due("doubt of " + t, 0, x.of(t, 8));
        }
        x.lend(19, 7);
        for (int t = 0; t < 20; t++) {
            Check.due("doubt of " + t + " with the last one lent", 1, x.of(t, 8));
        }
    }

    private static void pass() {
        Check.sentence("4: false, and nothing is done: none such is there");
        BUSY.range(0, 0, 8, "pass", 0, 5);
        BUSY.refuses("pass", 2, 5);
        BUSY.refuses("pass", 4, 5);
        Check.sentence("4: false, and nothing is done: no such HOUSE");
        BUSY.range(1, 0, 7, "pass", 0, 5);
        Check.sentence("4: false, and nothing is done: it is LENT");
        for (int house = 0; house < 8; house++) {
            BUSY.refuses("pass", 3, house);
        }
        Check.sentence("4: false, and nothing is done: it owns it");
        BUSY.refuses("pass", 0, 1);
        BUSY.refuses("pass", 7, 1);
        BUSY.refuses("pass", 8, 1);
        Check.sentence("4: THING t PASSES to a HOUSE: true");
        Book x = BUSY.takes(1, "pass", 7, 3);
        Check.due("owner", 3, x.held(7, 20, 0));
        Check.due("keeper", 3, x.held(7, 20, 1));
        Check.due("owners", 4, x.owners(7, -1));
        Check.due("the day before", 1, x.held(7, 19, 0));
    }

    private static void lend() {
        Check.sentence("5: false, and nothing is done: none such is there");
        BUSY.range(0, 0, 8, "lend", 0, 5);
        BUSY.refuses("lend", 2, 5);
        BUSY.refuses("lend", 4, 5);
        Check.sentence("5: false, and nothing is done: no such HOUSE");
        BUSY.range(1, 0, 7, "lend", 0, 5);
        Check.sentence("5: false, and nothing is done: it is LENT");
        for (int house = 0; house < 8; house++) {
            BUSY.refuses("lend", 3, house);
        }
        Check.sentence("5: false, and nothing is done: the HOUSE owns it");
        BUSY.refuses("lend", 0, 1);
        BUSY.refuses("lend", 7, 1);
        BUSY.refuses("lend", 8, 1);
        Check.sentence("5: THING t is LENT to a HOUSE: true");
        Book x = BUSY.takes(1, "lend", 7, 3);
        Check.due("owner", 1, x.held(7, 20, 0));
        Check.due("keeper", 3, x.held(7, 20, 1));
        Check.due("owners", 3, x.owners(7, -1));
        Check.due("keeper the day before", 1, x.held(7, 19, 1));
    }

    private static void back() {
        Check.sentence("6: false if none such is LENT (and there)");
        for (int t : new int[] {0, 1, 5, 6, 7, 8}) {
            BUSY.refuses("back", t);
        }
        BUSY.refuses("back", 4);
        Check.sentence("6: false if it is LENT, but BURNT");
        BUSY.refuses("back", 2);
        Check.sentence("6: THING t comes BACK: true");
        Book x = BUSY.takes(1, "back", 3);
        Check.due("owner", 2, x.held(3, 20, 0));
        Check.due("keeper", 2, x.held(3, 20, 1));
        Check.due("keeper the day before", 1, x.held(3, 19, 1));
        Check.due("owners", 1, x.owners(3, -1));
        Check.sentence("6: false if there is none such");
        Edge allLent = new Edge(() -> {
            Book y = Scenes.everywhere();
            for (int t = 0; t < 8; t++) {
                y.lend(t, 7 - t);
            }
            return y;
        });
        allLent.range(0, 0, 7, "back", 3);
    }

    private static void burn() {
        Check.sentence("7: false if none such is there");
        BUSY.range(0, 0, 8, "burn", 0);
        BUSY.refuses("burn", 2);
        BUSY.refuses("burn", 4);
        Check.sentence("7: THING t is BURNT: true; from that DAY on it is there no more");
        for (int t : new int[] {0, 3, 8}) {
            Book x = BUSY.takes(1, "burn", t);
            Check.due("is there", 0, x.of(t, 7));
            Check.due("came", 9, x.look(1));
            Check.due("are there", 6, x.look(2));
            Check.due("owner on the day", NONE, x.held(t, 20, 0));
            Check.due("keeper on the day", NONE, x.held(t, 20, 1));
            Check.due("owner the day before", t == 3 ? 2 : 1, x.held(t, 19, 0));
            Check.due("keeper the day before", 1, x.held(t, 19, 1));
            Check.due("burnt again", false, x.burn(t));
        }
    }

    private static void acts() {
        Check.sentence("Terms: PASSED, LENT, BACK and BURNT are 300 acts at most in all; none more is done");
        Edge last = new Edge(() -> Scenes.acts(299));
        Edge none = new Edge(() -> Scenes.acts(300));
        int[][] acts = {{0, 3}, {0, 3}, {1}, {0}, {1}};
        String[] names = {"pass", "lend", "back", "burn", "burn"};
        for (int i = 0; i < acts.length; i++) {
            Book x = last.takes(1, names[i], acts[i]);
            Check.due("act 301 behind " + names[i], false, x.pass(0, 4));
            Check.due("act 301 behind " + names[i], false, x.lend(0, 4));
            Check.due("act 301 behind " + names[i], false, x.back(1));
            Check.due("act 301 behind " + names[i], false, x.burn(0));
            Check.due("act 301 behind " + names[i], false, x.burn(1));
            none.refuses(names[i], acts[i]);
        }
        Check.sentence("Terms: what is no act is done behind the 300th");
        none.takes(2, "thing", 0, 0, 0, 1, 0);
        none.takes(2, "copy", 0, 0, 0);
        none.takes(0, "gather", 1, 0, 1, 2);
        none.takes(1, "days", 1);
    }

    private static void actsThatAreRefused() {
        Check.sentence("Terms: 300 acts, and what is not done is none of them");
        Book x = new Book();
        x.thing(0, 0, 0, 15, 0);
        x.thing(1, 0, 0, 15, 0);
        x.copy(0, 0, 0);
        x.gather(0, 0, 1, 1);
        x.days(1);
        x.pass(0, 0);
        x.pass(0, 8);
        x.lend(0, 0);
        x.lend(3, 1);
        x.back(0);
        x.burn(-1);
        for (int i = 0; i < 150; i++) {
            Check.due("lend " + i, true, x.lend(0, 1));
            Check.due("back " + i, true, x.back(0));
        }
        Check.due("act 301", false, x.lend(0, 1));
        Check.due("keeper", 0, x.held(0, 1, 1));
    }

    private static void days() {
        Check.sentence("8: so many DAYS (1 .. 1000) go by: now; NONE, and nothing is done, if that can't be");
        BUSY.range(0, 1, 1000, "days", 5);
        Check.due("look after 1", 21, BUSY.takes(21, "days", 1).look(0));
        Check.due("look after 1000", 1020, BUSY.takes(1020, "days", 1000).look(0));
        BUSY.refuses("days", MAX - 19);
        BUSY.refuses("days", MAX - 20);
        BUSY.refuses("days", -20);
        BUSY.refuses("days", -21);
    }

    private static void lastDay() {
        Check.sentence("Terms: DAYS 0 .. 9999");
        new Edge(() -> Scenes.day(9998)).takes(9999, "days", 1);
        new Edge(() -> Scenes.day(9998)).refuses("days", 2);
        Edge near = new Edge(() -> Scenes.day(9000));
        Check.due("look on the last day", 9999, near.takes(9999, "days", 999).look(0));
        near.refuses("days", 1000);
        new Edge(() -> Scenes.day(8999)).takes(9999, "days", 1000);
        Edge last = new Edge(() -> Scenes.day(9999));
        for (int n : new int[] {1, 2, 1000, 0, -1, 1001, MAX, MIN, MAX - 9998, MIN + 9999}) {
            last.refuses("days", n);
        }
        last.asks(0, "held", 0, 9999, 0);
        last.refuses("held", 0, 10000, 0);
        Book x = last.takes(1, "thing", 0, 0, 0, 1, 0);
        Check.due("came on the last day", 9999, x.of(1, 4));
        Check.due("not there the day before", NONE, x.held(1, 9998, 0));
        Check.due("a gathering on the last day", 0, x.gather(0, 0, 1, 1));
        Check.due("its day", 9999, x.gathering(0, 1));
    }

    private static void look() {
        Check.sentence("9: NONE for another what");
        BUSY.range(0, 0, 4, "look", 0);
        int[] want = {20, 9, 7, 5, 2};
        for (int what = 0; what < want.length; what++) {
            BUSY.asks(want[what], "look", what);
        }
    }

    private static void of() {
        Check.sentence("10: NONE if there is none such");
        for (int what = 0; what <= 8; what++) {
            if (what != 5) {
                BUSY.range(0, 0, 8, "of", 1, what);
            }
            BUSY.refuses("of", -1, what);
            BUSY.refuses("of", 9, what);
        }
        Check.sentence("10: NONE if another what");
        BUSY.range(1, 0, 8, "of", 0, 0);
        BUSY.range(1, 0, 8, "of", 8, 0);
        Check.sentence("10: that of which it is a COPY (NONE)");
        BUSY.asks(NONE, "of", 0, 5);
        BUSY.asks(0, "of", 5, 5);
        BUSY.asks(5, "of", 6, 5);
        BUSY.asks(NONE, "of", 7, 5);
    }

    private static void ofWhatIsBurnt() {
        Check.sentence("10: 7 1 if it is there, else 0, 8 0 if it is BURNT");
        shows(Scenes.busy(), 2, 0, 7, 2, 3, 0, NONE, 2, 0, 0);
        shows(Scenes.busy(), 4, 1, 9, 9, 15, 0, NONE, 4, 0, 0);
        Book x = BUSY.takes(1, "burn", 6);
        shows(x, 6, 0, 2, 3, 15, 10, 5, 0, 0, 0);
    }

    private static void inDoubt() {
        Check.sentence("Terms: IN DOUBT if it is a COPY and its ROOT is BURNT");
        Book x = BUSY.takes(1, "burn", 0);
        Check.due("the root itself", 0, x.of(0, 8));
        Check.due("its copy", 1, x.of(5, 8));
        Check.due("the copy's copy", 1, x.of(6, 8));
        x.burn(5);
        Check.due("the copy's copy alone", 1, x.of(6, 8));
        Check.due("the burnt copy", 0, x.of(5, 8));
        Check.sentence("Terms: IN DOUBT if another THING of its ROOT is there that is KEPT by another HOUSE");
        int[] want = {1, 0, 0, 0, 0, 1, 1, 0, 0};
        for (int t = 0; t < want.length; t++) {
            BUSY.asks(want[t], "of", t, 8);
        }
        Book lent = BUSY.takes(1, "lend", 5, 1);
        for (int t : new int[] {0, 5, 6}) {
            Check.due("all kept by one house " + t, 0, lent.of(t, 8));
        }
        Book two = new Book();
        two.thing(0, 1, 1, 1, 0);
        two.copy(0, 1, 7);
        Check.due("the first of two", 1, two.of(0, 8));
        Check.due("the last of two", 1, two.of(1, 8));
        Book burnt = BUSY.takes(1, "burn", 5);
        Check.due("the other house's one is burnt", 0, burnt.of(0, 8));
        Check.due("its copy is no copy of a burnt root", 0, burnt.of(6, 8));
    }

    private static void held() {
        Check.sentence("11: NONE: none such was there then, or one can't be");
        for (int what = 0; what < 2; what++) {
            BUSY.range(0, 0, 8, "held", 0, 12, what);
            BUSY.range(1, 0, 20, "held", 0, 12, what);
        }
        BUSY.range(2, 0, 1, "held", 0, 12, 0);
        BUSY.range(2, 0, 1, "held", 8, 20, 0);
    }

    private static void heldFromDayToDay() {
        Check.sentence("11: who has THING t at the end of a DAY (up to now)");
        int[][] want = {
            // thing, day, owner, keeper
            {0, 0, 1, 1}, {0, 20, 1, 1}, {0, 21, NONE, NONE},
            {2, 9, 1, 1}, {2, 10, 1, 6}, {2, 14, 1, 6}, {2, 15, NONE, NONE}, {2, 20, NONE, NONE},
            {3, 9, 2, 2}, {3, 10, 2, 1}, {3, 20, 2, 1},
            {4, 14, 1, 1}, {4, 15, NONE, NONE},
            {5, 9, NONE, NONE}, {5, 10, 2, 2}, {7, 9, NONE, NONE}, {7, 10, 1, 1},
            {8, 9, NONE, NONE}, {8, 10, 1, 4}, {8, 14, 1, 4}, {8, 15, 1, 1}};
        for (int[] w : want) {
            BUSY.asks(w[2], "held", w[0], w[1], 0);
            BUSY.asks(w[3], "held", w[0], w[1], 1);
        }
        Check.sentence("11: a THING that came and was BURNT on one DAY was there at the end of none");
        Book x = BUSY.takes(9, "thing", 0, 0, 0, 1, 0);
        x.burn(9);
        x.days(1);
        for (int day = 19; day <= 21; day++) {
            Check.due("held(9, " + day + ", 0)", NONE, x.held(9, day, 0));
        }
    }

    private static void owners() {
        Check.sentence("12: NONE if there is none such");
        BUSY.range(0, 0, 8, "owners", 0, -1);
        BUSY.range(0, 0, 8, "owners", 0, 0);
        Check.sentence("12: the i-th of them, from 0 on (what -1: how many)");
        BUSY.range(1, -1, 0, "owners", 0, 0);
        BUSY.range(1, -1, 2, "owners", 7, 0);
        int[] want = {3, 1, 3, 1};
        for (int i = 0; i < want.length; i++) {
            BUSY.asks(want[i], "owners", 7, i - 1);
        }
        Check.sentence("12: who has it LENT has not owned it; a BURNT one was owned");
        BUSY.range(1, -1, 0, "owners", 2, 0);
        BUSY.range(1, -1, 0, "owners", 3, 0);
        BUSY.asks(1, "owners", 2, 0);
        BUSY.asks(2, "owners", 3, 0);
    }

    private static void mostOwners() {
        Check.sentence("12: its first one counts; one again counts again");
        Book x = new Book();
        x.thing(0, 1, 1, 1, 7);
        for (int i = 0; i < 300; i++) {
            Check.due("pass " + i, true, x.pass(0, i % 7));
        }
        Check.due("pass 300", false, x.pass(0, 7));
        Check.due("how many", 301, x.owners(0, -1));
        Check.due("the first", 7, x.owners(0, 0));
        for (int i = 1; i <= 100; i++) {
            Check.due("owner " + i, (i - 1) % 7, x.owners(0, i));
        }
        Check.due("the last", 299 % 7, x.owners(0, 300));
        Check.due("behind the last", NONE, x.owners(0, 301));
        Check.due("before how many", NONE, x.owners(0, -2));
        Check.due("the greatest", NONE, x.owners(0, MAX));
        Check.due("the least", NONE, x.owners(0, MIN));
    }
}
