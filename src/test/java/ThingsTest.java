/** Promises 1 to 12: a new object, things, their acts, days, and what is asked of them. */
public final class ThingsTest {
    private static final int NONE = TeaBook.NONE;
    private static final int MIN = Integer.MIN_VALUE;
    private static final int MAX = Integer.MAX_VALUE;

    public static void main(String[] args) {
        newObject();
        thing();
        copy();
        pass();
        lendAndBack();
        burn();
        days();
        look();
        of();
        inDoubt();
        held();
        owners();
        mostActs();
        Check.finish();
    }

    private static void newObject() {
        Book x = new Book();
        for (int what = 0; what <= 4; what++) {
            Check.due("new look(" + what + ")", 0, x.look(what));
        }
        Check.due("new of", NONE, x.of(0, 0));
        Check.due("new held", NONE, x.held(0, 0, 0));
        Check.due("new gathering", NONE, x.gathering(0, 0));
        Check.due("new fault", 0, x.fault(0));
        Check.due("new fault's place", NONE, x.fault(1));
        Check.due("new best", NONE, x.best(0, 0, 1, 1, 3));
        Check.due("new barred", NONE - 1, x.barred(0, 1, 1));
        Check.due("new again", NONE, x.again(1, 1));
        Check.due("new seen", NONE, x.seen(0, 0, 0));
        Check.due("new end", false, x.end(1));
    }

    private static void thing() {
        Book x = new Book();
        int[][] wrong = {
            {-1, 0, 0, 1, 0}, {5, 0, 0, 1, 0}, {0, -1, 0, 1, 0}, {0, 10, 0, 1, 0}, {0, 0, -1, 1, 0},
            {0, 0, 10, 1, 0}, {0, 0, 0, 0, 0}, {0, 0, 0, 16, 0}, {0, 0, 0, -1, 0}, {0, 0, 0, 1, -1},
            {0, 0, 0, 1, 8}, {MIN, 0, 0, 1, 0}, {MAX, 0, 0, 1, 0}, {0, 0, 0, MIN, 0}, {0, 0, 0, 1, MAX}};
        for (int[] w : wrong) {
            Check.due("wrong thing", NONE, x.thing(w[0], w[1], w[2], w[3], w[4]));
        }
        Check.due("things after wrong ones", 0, x.look(1));
        Check.due("least thing", 0, x.thing(0, 0, 0, 1, 0));
        Check.due("greatest thing", 1, x.thing(4, 9, 9, 15, 7));
        for (int i = 2; i < 20; i++) {
            Check.due("thing " + i, i, x.thing(i % 5, i % 10, 3, 5, i % 8));
        }
        Check.due("the 21st thing", NONE, x.thing(0, 0, 0, 1, 0));
        Check.due("the 21st thing as a copy", NONE, x.copy(0, 0, 0));
        x.burn(3);
        Check.due("no room after a burning", NONE, x.thing(0, 0, 0, 1, 0));
        Check.due("things that came", 20, x.look(1));
        Check.due("things there", 19, x.look(2));
    }

    private static void copy() {
        Book x = new Book();
        Check.due("copy of none", NONE, x.copy(0, 1, 1));
        x.thing(3, 5, 7, 9, 2);
        x.days(4);
        Check.due("rank -1", NONE, x.copy(0, -1, 1));
        Check.due("rank 10", NONE, x.copy(0, 10, 1));
        Check.due("house -1", NONE, x.copy(0, 1, -1));
        Check.due("house 8", NONE, x.copy(0, 1, 8));
        Check.due("thing -1", NONE, x.copy(-1, 1, 1));
        Check.due("thing 1", NONE, x.copy(1, 1, 1));
        Check.due("copy", 1, x.copy(0, 9, 6));
        int[] want = {3, 9, 7, 9, 4, 0, 0, 1, 1};
        for (int what = 0; what < want.length; what++) {
            Check.due("of the copy " + what, want[what], x.of(1, what));
        }
        x.lend(0, 5);
        Check.due("copy of a lent one", 2, x.copy(0, 0, 0));
        Check.due("copy of a copy", 3, x.copy(1, 0, 0));
        Check.due("its model", 1, x.of(3, 5));
        Check.due("its root", 0, x.of(3, 6));
        x.burn(0);
        Check.due("copy of a burnt one", NONE, x.copy(0, 1, 1));
        Check.due("copy of a copy of a burnt one", 4, x.copy(3, 1, 1));
        Check.due("its root, burnt", 0, x.of(4, 6));
    }

    private static void pass() {
        Book x = new Book();
        Check.due("pass none", false, x.pass(0, 1));
        x.thing(0, 1, 1, 1, 0);
        Check.due("pass to its owner", false, x.pass(0, 0));
        Check.due("pass to house 8", false, x.pass(0, 8));
        Check.due("pass to house -1", false, x.pass(0, -1));
        Check.due("pass thing -1", false, x.pass(-1, 1));
        Check.due("pass thing 1", false, x.pass(1, 1));
        Check.due("nothing done", 1, x.owners(0, -1));
        Check.due("pass", true, x.pass(0, 7));
        Check.due("owner", 7, x.held(0, 0, 0));
        Check.due("keeper", 7, x.held(0, 0, 1));
        x.lend(0, 3);
        Check.due("pass a lent one", false, x.pass(0, 2));
        Check.due("pass a lent one to its keeper", false, x.pass(0, 3));
        x.back(0);
        Check.due("pass when back", true, x.pass(0, 2));
        x.burn(0);
        Check.due("pass a burnt one", false, x.pass(0, 1));
    }

    private static void lendAndBack() {
        Book x = new Book();
        Check.due("lend none", false, x.lend(0, 1));
        Check.due("back none", false, x.back(0));
        x.thing(0, 1, 1, 1, 4);
        Check.due("back of one not lent", false, x.back(0));
        Check.due("lend to its owner", false, x.lend(0, 4));
        Check.due("lend to house 8", false, x.lend(0, 8));
        Check.due("lend to house -1", false, x.lend(0, -1));
        Check.due("lend", true, x.lend(0, 0));
        Check.due("owner of the lent one", 4, x.held(0, 0, 0));
        Check.due("keeper of the lent one", 0, x.held(0, 0, 1));
        Check.due("lend a lent one", false, x.lend(0, 1));
        Check.due("back of thing -1", false, x.back(-1));
        Check.due("back of thing 1", false, x.back(1));
        Check.due("back", true, x.back(0));
        Check.due("back twice", false, x.back(0));
        Check.due("keeper when back", 4, x.held(0, 0, 1));
        Check.due("one owner alone", 1, x.owners(0, -1));
        x.lend(0, 6);
        Check.due("burn a lent one", true, x.burn(0));
        Check.due("back of a burnt one", false, x.back(0));
        Check.due("lend a burnt one", false, x.lend(0, 1));
        Check.due("none has it", NONE, x.held(0, 0, 1));
    }

    private static void burn() {
        Book x = new Book();
        Check.due("burn none", false, x.burn(0));
        x.thing(1, 1, 1, 1, 1);
        Check.due("burn -1", false, x.burn(-1));
        Check.due("burn 1", false, x.burn(1));
        Check.due("burn min", false, x.burn(MIN));
        Check.due("burn", true, x.burn(0));
        Check.due("burn twice", false, x.burn(0));
        Check.due("still came", 1, x.look(1));
        Check.due("not there", 0, x.look(2));
        Check.due("its kind is told still", 1, x.of(0, 0));
    }

    private static void days() {
        Book x = new Book();
        Check.due("days 0", NONE, x.days(0));
        Check.due("days -1", NONE, x.days(-1));
        Check.due("days 1001", NONE, x.days(1001));
        Check.due("days max", NONE, x.days(MAX));
        Check.due("days min", NONE, x.days(MIN));
        Check.due("days 1", 1, x.days(1));
        for (int i = 1; i < 10; i++) {
            Check.due("days 1000", 1000 * i + 1, x.days(1000));
        }
        Check.due("over the last day", NONE, x.days(999));
        Check.due("nothing done", 9001, x.look(0));
        Check.due("up to the last day", 9999, x.days(998));
        Check.due("behind the last day", NONE, x.days(1));
    }

    private static void look() {
        Book x = new Book();
        x.thing(0, 1, 1, 1, 0);
        x.thing(1, 1, 1, 1, 0);
        x.days(7);
        x.gather(0, 0, 1, 1);
        x.burn(0);
        Check.rules(x, "bar 1=2; bar 2=1; bar 3=1;");
        int[] want = {7, 2, 1, 1, 3};
        for (int what = 0; what < want.length; what++) {
            Check.due("look " + what, want[what], x.look(what));
        }
        Check.due("look 5", NONE, x.look(5));
        Check.due("look -1", NONE, x.look(-1));
        Check.due("look max", NONE, x.look(MAX));
    }

    private static void of() {
        Book x = new Book();
        x.days(12);
        x.thing(2, 8, 6, 10, 3);
        int[] want = {2, 8, 6, 10, 12, NONE, 0, 1, 0};
        for (int what = 0; what < want.length; what++) {
            Check.due("of " + what, want[what], x.of(0, what));
        }
        Check.due("of 9", NONE, x.of(0, 9));
        Check.due("of -1", NONE, x.of(0, -1));
        Check.due("of thing 1", NONE, x.of(1, 0));
        Check.due("of thing -1", NONE, x.of(-1, 0));
        Check.due("of thing 20", NONE, x.of(20, 0));
        Check.due("of thing max", NONE, x.of(MAX, 0));
    }

    private static void inDoubt() {
        Book x = new Book();
        x.thing(0, 1, 1, 1, 2);
        x.copy(0, 1, 2);
        x.copy(1, 1, 2);
        x.thing(0, 1, 1, 1, 5);
        for (int t = 0; t < 4; t++) {
            Check.due("all in one house " + t, 0, x.of(t, 8));
        }
        x.lend(2, 5);
        for (int t = 0; t < 4; t++) {
            Check.due("one lent " + t, t < 3 ? 1 : 0, x.of(t, 8));
        }
        x.burn(2);
        for (int t = 0; t < 4; t++) {
            Check.due("the lent one burnt " + t, 0, x.of(t, 8));
        }
        x.burn(0);
        Check.due("burnt root", 0, x.of(0, 8));
        Check.due("copy of a burnt root", 1, x.of(1, 8));
        Check.due("copy of the copy", 4, x.copy(1, 1, 2));
        Check.due("copy of a copy of a burnt root", 1, x.of(4, 8));
        x.burn(1);
        Check.due("its model burnt too", 1, x.of(4, 8));
        x.copy(3, 0, 5);
        x.copy(5, 0, 5);
        x.burn(5);
        Check.due("only the model is burnt, not the root", 0, x.of(6, 8));
    }

    private static void held() {
        Book x = new Book();
        x.days(10);
        x.thing(0, 1, 1, 1, 1);
        x.pass(0, 2);
        x.pass(0, 3);
        x.days(5);
        x.lend(0, 4);
        x.days(5);
        x.back(0);
        x.pass(0, 5);
        x.days(5);
        x.lend(0, 6);
        x.burn(0);
        x.days(5);
        int[][] want = {{0, NONE, NONE}, {9, NONE, NONE}, {10, 3, 3}, {14, 3, 3}, {15, 3, 4}, {19, 3, 4},
            {20, 5, 5}, {24, 5, 5}, {25, NONE, NONE}, {30, NONE, NONE}, {31, NONE, NONE}, {-1, NONE, NONE},
            {MIN, NONE, NONE}, {MAX, NONE, NONE}};
        for (int[] w : want) {
            Check.due("owner on day " + w[0], w[1], x.held(0, w[0], 0));
            Check.due("keeper on day " + w[0], w[2], x.held(0, w[0], 1));
        }
        Check.due("held what 2", NONE, x.held(0, 12, 2));
        Check.due("held what -1", NONE, x.held(0, 12, -1));
        Check.due("held thing 1", NONE, x.held(1, 12, 0));
        Check.due("held thing -1", NONE, x.held(-1, 12, 0));
        x.thing(0, 1, 1, 1, 1);
        Check.due("held tomorrow", NONE, x.held(1, 31, 0));
        Check.due("held today", 1, x.held(1, 30, 0));
        x.thing(0, 1, 1, 1, 1);
        x.burn(2);
        Check.due("came and burnt on one day", NONE, x.held(2, 30, 0));
    }

    private static void owners() {
        Book x = new Book();
        Check.due("owners of none", NONE, x.owners(0, -1));
        x.thing(0, 1, 1, 1, 1);
        x.pass(0, 2);
        x.lend(0, 7);
        x.back(0);
        x.pass(0, 1);
        x.pass(0, 3);
        x.lend(0, 6);
        x.burn(0);
        int[] want = {4, 1, 2, 1, 3, NONE, NONE};
        for (int i = 0; i < want.length; i++) {
            Check.due("owners " + (i - 1), want[i], x.owners(0, i - 1));
        }
        Check.due("owners -2", NONE, x.owners(0, -2));
        Check.due("owners max", NONE, x.owners(0, MAX));
        Check.due("owners min", NONE, x.owners(0, MIN));
        Check.due("owners of thing 1", NONE, x.owners(1, -1));
        Check.due("owners of thing -1", NONE, x.owners(-1, -1));
    }

    private static void mostActs() {
        Book x = new Book();
        x.thing(0, 1, 1, 1, 0);
        x.thing(0, 1, 1, 1, 0);
        for (int i = 1; i <= 98; i++) {
            Check.due("pass " + i, true, x.pass(0, i % 2));
        }
        Check.due("an act that is not done is not counted", false, x.pass(0, 0));
        for (int i = 0; i < 100; i++) {
            Check.due("lend " + i, true, x.lend(0, 5));
            Check.due("back " + i, true, x.back(0));
        }
        Check.due("act 299", true, x.burn(1));
        Check.due("act 300", true, x.lend(0, 3));
        Check.due("pass as act 301", false, x.pass(0, 4));
        Check.due("back as act 301", false, x.back(0));
        Check.due("burn as act 301", false, x.burn(0));
        Check.due("still lent", 3, x.held(0, 0, 1));
        Check.due("owners after all", 99, x.owners(0, -1));
        Check.due("a thing still comes", 2, x.thing(0, 1, 1, 1, 2));
        Check.due("lend as act 301", false, x.lend(2, 3));
        Check.due("pass as act 301", false, x.pass(2, 3));
        Check.due("days still go", 5, x.days(5));
    }
}
