import java.util.ArrayList;
import java.util.List;
import java.util.function.Supplier;

/** The document's 'Terms' from the first sentence to the last, each by its own words. */
public final class TermsTest {
    private static final int NONE = TeaBook.NONE;
    private static final String[] KINDS = {"bowl", "scroll", "kettle", "vase", "scoop"};
    private static final String[] SIGNS = {"<", "=", ">"};

    public static void main(String[] args) {
        daysOfTheBook();
        kindsByTheirNames();
        thingsHaveThese();
        housesOwnThem();
        fromItsDayOn();
        toldNow();
        threeHundredActs();
        root();
        inDoubt();
        gatherings();
        pairs();
        again();
        textOfRules();
        choicesAndJoins();
        clauses();
        termsOnBothSides();
        kindsInTerms();
        tokens();
        blanks();
        faultOne();
        faultTwo();
        wordsOfASet();
        firstRule();
        fit();
        best();
        bestAmongAll();
        none();
        Check.finish();
    }

    private static void daysOfTheBook() {
        Check.sentence("DAYS 0 .. 9999 (0 now, at first).");
        Book x = new Book();
        Check.due("at first", 0, x.look(0));
        for (int i = 1; i <= 9; i++) {
            Check.due("days(1000)", i * 1000, x.days(1000));
        }
        Check.due("days(1000) to 10000", NONE, x.days(1000));
        Check.due("days(999) to 9999", 9999, x.days(999));
        Check.due("days(1) to 10000", NONE, x.days(1));
        Check.due("now", 9999, x.look(0));
    }

    private static void kindsByTheirNames() {
        Check.sentence("KINDS 0 BOWL, 1 SCROLL, 2 KETTLE, 3 VASE, 4 SCOOP.");
        Book x = new Book();
        Check.due("kind -1", NONE, x.thing(-1, 1, 1, 15, 0));
        Check.due("kind 5", NONE, x.thing(5, 1, 1, 15, 0));
        for (int kind = 0; kind < 5; kind++) {
            Check.due("kind " + kind, kind, x.thing(kind, 1, 1, 15, 0));
            Check.due("its kind", kind, x.of(kind, 0));
        }
        for (int kind = 0; kind < 5; kind++) {
            Check.rules(x, "bar has " + KINDS[kind] + "=1;");
            for (int t = 0; t < 5; t++) {
                Check.due(KINDS[kind] + " is kind " + t, t == kind ? 0 : NONE, x.barred(0, 1, 1 << t));
            }
        }
    }

    private static void thingsHaveThese() {
        Check.sentence("THINGS 0 .. 19, numbered as they come, have a KIND, a RANK (0 .. 9), a TONE (0 .. 9), "
                + "a SEASON set (of 0 .. 3, not empty), the DAY on which they came, "
                + "perhaps the THING of which they are a COPY.");
        Book x = new Book();
        for (int t = 0; t < 20; t++) {
            boolean copied = t % 4 == 3;
            int number = copied ? x.copy(t - 1, 9 - t % 10, 0) : x.thing(t % 5, t % 10, 9 - t % 10, 1 + t % 15, 0);
            Check.due("its number", t, number);
            int same = copied ? t - 1 : t;
            int[] want = {same % 5, copied ? 9 - t % 10 : t % 10, 9 - same % 10, 1 + same % 15, t, copied ? t - 1 : NONE};
            for (int what = 0; what < want.length; what++) {
                Check.due("of(" + t + ", " + what + ")", want[what], x.of(t, what));
            }
            x.days(1);
        }
        Check.due("the 21st", NONE, x.thing(0, 0, 0, 1, 0));
        Check.due("the 21st, a copy", NONE, x.copy(0, 0, 0));
        Check.due("of the 21st", NONE, x.of(20, 0));
        int[][] wrong = {{0, -1, 0, 1, 0}, {0, 10, 0, 1, 0}, {0, 0, -1, 1, 0}, {0, 0, 10, 1, 0}, {0, 0, 0, 0, 0},
            {0, 0, 0, 16, 0}, {0, 0, 0, -1, 0}};
        Book y = new Book();
        for (int[] w : wrong) {
            Check.due(new Call("thing", w).toString(), NONE, y.thing(w[0], w[1], w[2], w[3], w[4]));
        }
        Check.due("none came", 0, y.look(1));
    }

    private static void housesOwnThem() {
        Check.sentence("HOUSES 0 .. 7 own them.");
        Book x = Scenes.everywhere();
        for (int house = 0; house < 8; house++) {
            Check.due("owner", house, x.held(house, 0, 0));
            Check.due("first owner", house, x.owners(house, 0));
        }
        for (int house : new int[] {-1, 8}) {
            Check.due("thing of house " + house, NONE, x.thing(0, 1, 1, 1, house));
            Check.due("copy of house " + house, NONE, x.copy(0, 1, house));
            Check.due("pass to house " + house, false, x.pass(0, house));
            Check.due("lend to house " + house, false, x.lend(0, house));
            Check.due("gather in house " + house, NONE, x.gather(house, 0, 1, 1));
            Check.due("best for house " + house, NONE, x.best(house, 0, 1, 1, 0));
        }
    }

    private static void fromItsDayOn() {
        Check.sentence("A THING is OWNED by a HOUSE from its DAY on; it PASSES to another one; it is LENT to a HOUSE "
                + "until it comes BACK (it is KEPT by that then, else by the owner); it is BURNT: "
                + "from that DAY on it is there no more.");
        Book x = new Book();
        x.days(3);
        x.thing(0, 5, 5, 15, 2);
        x.days(2);
        x.pass(0, 4);
        x.days(2);
        x.lend(0, 6);
        x.days(2);
        x.back(0);
        x.days(2);
        Check.due("there", 1, x.of(0, 7));
        x.burn(0);
        Check.due("there no more", 0, x.of(0, 7));
        x.days(2);
        int[] owners = {NONE, NONE, NONE, 2, 2, 4, 4, 4, 4, 4, 4, NONE, NONE, NONE};
        int[] keepers = {NONE, NONE, NONE, 2, 2, 4, 4, 6, 6, 4, 4, NONE, NONE, NONE};
        for (int day = 0; day < owners.length; day++) {
            Check.due("owner on day " + day, owners[day], x.held(0, day, 0));
            Check.due("keeper on day " + day, keepers[day], x.held(0, day, 1));
        }
        Check.due("no pass", false, x.pass(0, 1));
        Check.due("no lend", false, x.lend(0, 1));
        Check.due("no back", false, x.back(0));
        Check.due("no burn", false, x.burn(0));
        Check.due("no copy", NONE, x.copy(0, 1, 1));
        Check.due("no gathering", NONE, x.gather(4, 0, 1, 1));
        Check.due("no best", NONE, x.best(4, 0, 1, 1, 0));
    }

    private static void toldNow() {
        Check.sentence("All that happens is told now.");
        Book x = Scenes.busy();
        int[] before = heldUpTo(x, 19);
        x = Scenes.busy();
        x.pass(0, 7);
        x.lend(1, 7);
        x.back(3);
        x.burn(5);
        Check.due("a thing", 9, x.thing(0, 1, 1, 1, 7));
        Check.due("a copy", 10, x.copy(0, 1, 7));
        Check.due("a gathering", 5, x.gather(7, 0, 1, 1 | 2));
        for (int t = 9; t <= 10; t++) {
            Check.due("its day", 20, x.of(t, 4));
            Check.due("not before", NONE, x.held(t, 19, 0));
            Check.due("from now on", 7, x.held(t, 20, 0));
        }
        Check.due("the gathering's day", 20, x.gathering(5, 1));
        int[] now = {x.held(0, 20, 0), x.held(1, 20, 1), x.held(3, 20, 1), x.held(5, 20, 0)};
        int[] want = {7, 7, 2, NONE};
        for (int i = 0; i < want.length; i++) {
            Check.due("now " + i, want[i], now[i]);
        }
        int[] after = heldUpTo(x, 19);
        for (int i = 0; i < before.length; i++) {
            Check.due("earlier days " + i, before[i], after[i]);
        }
    }

    private static int[] heldUpTo(Book x, int last) {
        int[] all = new int[9 * (last + 1) * 2];
        for (int i = 0; i < all.length; i++) {
            all[i] = x.held(i / 2 % 9, i / 18, i % 2);
        }
        return all;
    }

    private static void threeHundredActs() {
        Check.sentence("(PASSED, LENT, BACK and BURNT are 300 acts at most in all; none more is done.)");
        Call[] acts = {new Call("pass", 0, 5), new Call("lend", 0, 5), new Call("back", 1), new Call("burn", 0)};
        Edge full = new Edge(() -> Scenes.acts(300));
        for (Call act : acts) {
            Check.due(act + " as act 300", 1, act.on(Scenes.acts(299)));
            full.refuses(act.name(), act.numbers());
        }
        Book x = Scenes.acts(300);
        Check.due("things come still", 2, x.thing(0, 1, 1, 1, 0));
        Check.due("copies come still", 3, x.copy(2, 1, 0));
        Check.due("gatherings come still", 0, x.gather(0, 0, 1, 4));
        Check.due("days go by still", 1, x.days(1));
    }

    private static void root() {
        Check.sentence("ROOT of a THING: itself, or the ROOT of that of which it is a COPY.");
        Book x = new Book();
        x.thing(0, 1, 1, 1, 0);
        x.thing(0, 1, 1, 1, 0);
        int[] models = {0, 1, 2, 3, 4, 2, 7};
        int[] roots = {0, 1, 0, 1, 0, 1, 0, 0, 0};
        for (int model : models) {
            x.copy(model, 1, 0);
        }
        x.burn(2);
        for (int t = 0; t < roots.length; t++) {
            Check.due("root of " + t, roots[t], x.of(t, 6));
        }
    }

    private static void inDoubt() {
        Check.sentence("It is IN DOUBT if it is a COPY and its ROOT is BURNT, or if another THING of its ROOT is there "
                + "that is KEPT by another HOUSE.");
        Book x = new Book();
        x.thing(0, 1, 1, 1, 0);
        x.thing(0, 1, 1, 1, 7);
        x.copy(0, 1, 0);
        x.copy(2, 1, 0);
        doubts(x, "all in one house", 0, 0, 0, 0);
        x.lend(3, 7);
        doubts(x, "one kept by another house", 1, 0, 1, 1);
        x.back(3);
        doubts(x, "back", 0, 0, 0, 0);
        x.pass(0, 6);
        doubts(x, "the root in another house", 1, 0, 1, 1);
        x.lend(0, 0);
        doubts(x, "owned by two, kept by one", 0, 0, 0, 0);
        x.burn(2);
        doubts(x, "the model burnt", 0, 0, 0, 0);
        x.burn(0);
        doubts(x, "the root burnt", 0, 0, 0, 1);
        x.burn(3);
        doubts(x, "all burnt", 0, 0, 0, 0);
    }

    private static void doubts(Book x, String when, int... want) {
        for (int t = 0; t < want.length; t++) {
            Check.due(when + ": " + t, want[t], x.of(t, 8));
        }
    }

    private static void gatherings() {
        Check.sentence("GATHERINGS (60 at most, numbered as they come): a HOUSE, the DAY, a SEASON, GUESTS "
                + "(a set of 0 .. 7, not empty), a SET: at most one THING of each KIND, one at least.");
        Book x = Scenes.things(10);
        int[][] wrong = {{8, 0, 1, 1}, {0, 4, 1, 1}, {0, -1, 1, 1}, {0, 0, 0, 1}, {0, 0, 256, 1}, {0, 0, 1, 0},
            {0, 0, 1, 33}, {0, 0, 1, 1023}, {0, 0, 1, 1024}};
        for (int[] w : wrong) {
            Check.due(new Call("gather", w).toString(), NONE, x.gather(w[0], w[1], w[2], w[3]));
        }
        for (int i = 0; i < 60; i++) {
            Check.due("its number", i, x.gather(0, i % 4, 255 - i, 1 + i % 31));
            x.days(1);
        }
        Check.due("the 61st", NONE, x.gather(0, 0, 1, 1));
        for (int i = 0; i < 60; i++) {
            int[] want = {0, i, i % 4, 255 - i, 1 + i % 31};
            for (int what = 0; what < want.length; what++) {
                Check.due("gathering(" + i + ", " + what + ")", want[what], x.gathering(i, what));
            }
        }
    }

    private static void pairs() {
        Check.sentence("A PAIR of two THINGS of a GATHERING's SET was seen by all its GUESTS.");
        Book x = Scenes.things(10);
        int guests = 0x95;
        int set = 1 | 4 | 1 << 8;
        x.gather(0, 0, guests, set);
        for (int g = 0; g < 8; g++) {
            for (int a = 0; a < 10; a++) {
                for (int b = a + 1; b < 10; b++) {
                    int both = 1 << a | 1 << b;
                    int want = (guests >> g & 1) != 0 && (set & both) == both ? 1 : 0;
                    Check.due("seen(" + g + ", " + a + ", " + b + ")", want, x.seen(g, a, b));
                }
            }
        }
    }

    private static void again() {
        Check.sentence("AGAIN for GUESTS and a SET: the sum, over GUESTS, of the PAIRS of it that each has seen "
                + "(once or oftener); and, over GUESTS, 10 more for each GATHERING whose SET was just this that they were at.");
        Book x = Scenes.things(10);
        x.gather(0, 0, 1, 7);
        x.gather(0, 0, 3, 3);
        x.gather(0, 0, 3, 3);
        x.gather(0, 0, 4, 8);
        int[][] want = {
            // guests, set, again
            {1, 7, 3 + 10}, {2, 7, 1}, {3, 7, 4 + 10}, {4, 7, 0}, {1, 3, 1 + 20}, {3, 3, 2 + 40}, {255, 3, 2 + 40},
            {1, 6, 1}, {1, 15, 3}, {2, 6, 0}, {4, 8, 10}, {251, 8, 0}, {255, 9, 0}, {1, 1, 0}, {1, 32 | 2, 0}};
        for (int[] w : want) {
            Check.due("again(" + w[0] + ", " + w[1] + ")", w[2], x.again(w[0], w[1]));
        }
    }

    private static void textOfRules() {
        Check.sentence("THE RULES are a TEXT = {bar E ;}.");
        for (int count = 0; count <= 12; count++) {
            Check.passes("bar 1=2;".repeat(count), count);
        }
        Check.fails("1=2;", 1, 0);
        Check.fails("bar ;", 1, 4);
        Check.fails("bar 1=2", 1, 7);
        Check.fails("bar 1=2;;", 1, 8);
    }

    private static void says(Book x, boolean want, String expression) {
        Check.due("rules of " + expression, 1, Check.rules(x, "bar " + expression + ";"));
        Check.due(expression, want ? 0 : NONE, x.barred(0, 1, 1));
    }

    private static String truth(boolean so) {
        return so ? "1=1" : "1=2";
    }

    private static void choicesAndJoins() {
        Check.sentence("E = A {or A}. A = C {and C}.");
        for (int row = 0; row < 16; row++) {
            boolean a = (row & 1) != 0;
            boolean b = (row & 2) != 0;
            boolean c = (row & 4) != 0;
            boolean d = (row & 8) != 0;
            Book x = Scenes.everywhere();
            says(x, a || b, truth(a) + " or " + truth(b));
            says(x, a && b, truth(a) + " and " + truth(b));
            says(x, a || b || c || d, String.join(" or ", truth(a), truth(b), truth(c), truth(d)));
            says(x, a && b && c && d, String.join(" and ", truth(a), truth(b), truth(c), truth(d)));
            says(x, a || b && c || d, truth(a) + " or " + truth(b) + " and " + truth(c) + " or " + truth(d));
            says(x, a && b || c && d, truth(a) + " and " + truth(b) + " or " + truth(c) + " and " + truth(d));
        }
    }

    private static void clauses() {
        Check.sentence("C = T (< | = | >) T | not C | ( E ).");
        for (int row = 0; row < 8; row++) {
            boolean a = (row & 1) != 0;
            boolean b = (row & 2) != 0;
            boolean c = (row & 4) != 0;
            Book x = Scenes.everywhere();
            says(x, !a, "not " + truth(a));
            says(x, a, "not not " + truth(a));
            says(x, !a && b, "not " + truth(a) + " and " + truth(b));
            says(x, !a || b, "not " + truth(a) + " or " + truth(b));
            says(x, !(a || b), "not (" + truth(a) + " or " + truth(b) + ")");
            says(x, (a || b) && c, "(" + truth(a) + " or " + truth(b) + ") and " + truth(c));
            says(x, a && (b || c), truth(a) + " and (" + truth(b) + " or " + truth(c) + ")");
            says(x, !(a && !(b || c)), "not (" + truth(a) + " and not (" + truth(b) + " or " + truth(c) + "))");
        }
    }

    /** In season 2, for three guests, on day 30: a bowl, a scroll and a vase, and neither kettle nor scoop. */
    private static Book threeThings() {
        Book x = new Book();
        x.thing(0, 4, 9, 15, 0);
        x.days(10);
        x.thing(1, 9, 2, 15, 0);
        x.days(19);
        x.thing(3, 1, 3, 15, 0);
        x.days(1);
        return x;
    }

    private static void termsOnBothSides() {
        Check.sentence("T = NUMBER | season | guests | rank K | tone K | age K | has K.");
        String[] terms = {
            "0", "1", "9999", "0020", "season", "guests", "rank bowl", "rank scroll", "rank kettle", "rank vase", "rank scoop",
            "tone bowl", "tone scroll", "tone kettle", "tone vase", "tone scoop", "age bowl", "age scroll", "age kettle",
            "age vase", "age scoop", "has bowl", "has scroll", "has kettle", "has vase", "has scoop"};
        int[] values = {0, 1, 9999, 20, 2, 3, 4, 9, 0, 1, 0, 9, 2, 0, 3, 0, 30, 20, 0, 1, 0, 1, 1, 0, 1, 0};
        for (int i = 0; i < terms.length; i++) {
            Book x = threeThings();
            for (int j = 0; j < terms.length; j++) {
                StringBuilder text = new StringBuilder();
                for (String sign : SIGNS) {
                    text.append("bar ").append(terms[i]).append(sign).append(terms[j]).append(";");
                }
                Check.due(text.toString(), 3, Check.rules(x, text.toString()));
                Check.due("of " + text, 1 + Integer.compare(values[i], values[j]), x.barred(2, 0x92, 7));
            }
        }
    }

    private static void kindsInTerms() {
        Check.sentence("K = bowl | scroll | kettle | vase | scoop.");
        for (String word : new String[] {"rank", "tone", "age", "has"}) {
            for (String kind : KINDS) {
                Check.passes("bar " + word + " " + kind + "=1;", 1);
                Check.passes("bar 1=" + word + " " + kind + ";", 1);
            }
            for (String other : new String[] {"season", "guests", "rank", "1", "bar", "(", "cup", "bowls", ";"}) {
                Check.fails("bar " + word + " " + other + "=1;", 1, 5 + word.length());
            }
        }
    }

    private static void tokens() {
        Check.sentence("TOKENS: letters as many as stand together are KEYWORDS (those told here: bar or and not season guests "
                + "rank tone age has bowl scroll kettle vase scoop) or none; digits as many as stand together NUMBERS of 1 to 4 "
                + "digits or none; ; ( ) < = > .");
        Check.passes("bar(not season=1or guests<12and rank bowl>tone scroll)or age kettle=has vase and 1=rank scoop;", 1);
        Check.passes("bar1=1;bar(1=1)and(1<2)or(1>2);", 2);
        Check.passes("bar 1=1234;", 1);
        Check.fails("bar 1=12345;", 1, 6);
        Check.fails("barseason=1;", 1, 0);
        Check.fails("bar notseason=1;", 1, 4);
        Check.fails("bar 1=1 orseason=1;", 1, 8);
        Check.fails("bar rankbowl=1;", 1, 4);
        Check.fails("bar 1=1andx;", 1, 7);
        Check.fails("bar cup=1;", 1, 4);
        Check.fails("bar 1=1!", 1, 7);
        Check.fails("bar 1<=1;", 1, 6);
    }

    private static void blanks() {
        Check.sentence("Blanks (32, 10) between.");
        Check.passes(" \n bar\n\n1\n = 1\n;\n \n", 1);
        Check.passes("bar1=1;", 1);
        Check.fails("bar\t1=1;", 1, 3);
        Check.fails("bar 1=1;\r", 1, 8);
        Check.fails("b ar 1=1;", 1, 0);
        Check.fails("bar 1 2=1;", 1, 6);
    }

    private static void faultOne() {
        Check.sentence("FAULTS, the first by its place, at one place the least: 1 what can't stand there "
                + "(the end: the text's length).");
        Check.fails("bar 1=; bar x", 1, 6);
        Check.fails("bar x" + "(".repeat(9), 1, 4);
        Check.fails("bar " + "(".repeat(9) + "x", 2, 12);
        Check.fails("bar " + "(".repeat(8) + "1=(", 1, 14);
        Check.fails("bar 1=1;".repeat(11) + "bar bar", 1, 92);
        Check.fails("bar 1=1 and", 1, 11);
        Check.fails("bar 1=1 and \n", 1, 13);
    }

    private static void faultTwo() {
        Check.sentence("2 (at bar) the 13th RULE; (at it) the 9th not or ( that is open.");
        Check.fails("bar 1=1;".repeat(12) + " bar 1=1;", 2, 97);
        Check.passes("bar " + "not ".repeat(8) + "1=1;", 1);
        Check.fails("bar " + "not ".repeat(9) + "1=1;", 2, 36);
        Check.passes("bar " + "(".repeat(8) + "1=1" + ")".repeat(8) + ";", 1);
        Check.fails("bar " + "(".repeat(9) + "1=1" + ")".repeat(9) + ";", 2, 12);
        Check.fails("bar " + "not (".repeat(4) + "1=1 and not 1=1", 2, 32);
        Check.passes("bar " + "not (1=1) and ".repeat(9) + "1=1;", 1);
    }

    private static void wordsOfASet() {
        Check.sentence("Of a SET: season; guests: how many; has K: 1 if there is a THING of the KIND, else 0; "
                + "its rank, tone, age (DAYS since its coming), 0 without one.");
        Book x = threeThings();
        Check.rules(x, "bar season=3; bar guests=8; bar has bowl=0; bar rank bowl=4 and tone bowl=9 and age bowl=30 and has vase=0;");
        Check.due("season 3", 0, x.barred(3, 255, 7));
        Check.due("all eight guests", 1, x.barred(2, 255, 7));
        Check.due("no bowl", 2, x.barred(2, 254, 6));
        Check.due("the bowl alone", 3, x.barred(2, 254, 1));
        Check.due("the bowl with a vase", NONE, x.barred(2, 254, 5));
        x.days(1);
        Check.due("the bowl a day later", NONE, x.barred(2, 254, 1));
        Check.rules(x, "bar rank scoop=0 and tone scoop=0 and age scoop=0 and has scoop=0;");
        Check.due("0 without one", 0, x.barred(2, 254, 1));
    }

    private static void firstRule() {
        Check.sentence("A SET is BARRED by the first RULE whose E is so.");
        Book x = threeThings();
        Check.rules(x, "bar season=1; bar rank bowl=5; bar guests=2; bar rank bowl=4; bar 1=1;");
        int[][] want = {{1, 3, 1, 0}, {0, 3, 1, 2}, {0, 1, 1, 3}, {0, 1, 2, 4}, {0, 5, 2, 2}};
        for (int[] w : want) {
            Check.due("barred(" + w[0] + ", " + w[1] + ", " + w[2] + ")", w[3], x.barred(w[0], w[1], w[2]));
        }
        Check.rules(x, "bar 1=2; bar season=1;");
        Check.due("by none", NONE, x.barred(0, 3, 1));
    }

    private static void fit() {
        Check.sentence("FIT for a HOUSE, a SEASON and GUESTS is a SET that has just the KINDS of a set that is told "
                + "(not empty), each of its THINGS there, KEPT by the HOUSE, of that SEASON, and not BARRED.");
        Book x = new Book();
        x.thing(0, 1, 1, 15, 0);
        x.thing(0, 2, 1, 15, 0);
        x.thing(0, 3, 1, 15, 1);
        x.thing(0, 4, 1, 2, 0);
        x.thing(0, 5, 1, 15, 0);
        x.thing(1, 6, 1, 15, 0);
        x.thing(0, 7, 1, 15, 0);
        Check.due("bowls", 4, x.best(0, 0, 1, 1, 3));
        Check.due("bowls in season 1", 5, x.best(0, 1, 1, 1, 3));
        Check.due("bowls with a scroll", 4, x.best(0, 0, 1, 3, 3));
        Check.due("a scroll", 1, x.best(0, 0, 1, 2, 3));
        Check.due("no kettle", NONE, x.best(0, 0, 1, 7, 3));
        Check.due("no kinds", NONE, x.best(0, 0, 1, 0, 3));
        x.lend(2, 0);
        Check.due("one lent to the house", 5, x.best(0, 0, 1, 1, 3));
        Check.due("none with its owner", NONE, x.best(1, 0, 1, 1, 3));
        x.lend(0, 1);
        Check.due("one lent away", 4, x.best(0, 0, 1, 1, 3));
        x.burn(6);
        Check.due("one burnt", 3, x.best(0, 0, 1, 1, 3));
        Check.rules(x, "bar rank bowl=5 and guests=1;");
        Check.due("one barred", 2, x.best(0, 0, 1, 1, 3));
        Check.due("not for two guests", 3, x.best(0, 0, 3, 1, 3));
        Check.rules(x, "bar 1=1;");
        Check.due("all barred", NONE, x.best(0, 0, 1, 1, 3));
    }

    private static void best() {
        Check.sentence("BEST: of all that FIT the one with the least AGAIN; of these with the greatest sum of RANKS; "
                + "of these the first by its THINGS in the order of KINDS (the lesser first).");
        Book x = new Book();
        int[][] kindAndRank = {{1, 3}, {1, 5}, {0, 4}, {0, 6}, {0, 6}, {1, 5}};
        for (int[] k : kindAndRank) {
            x.thing(k[0], k[1], 0, 15, 0);
        }
        // Bowls 3 and 4, scrolls 1 and 5 are the finest: the lesser bowl is looked at first, then the lesser scroll.
        bestIs(x, 1 << 3 | 1 << 1, 0, 11, 9);
        x.gather(0, 0, 1, 1 << 3 | 1 << 1);
        bestIs(x, 1 << 3 | 1 << 5, 0, 11, 9);
        x.gather(0, 0, 1, 1 << 3 | 1 << 5);
        bestIs(x, 1 << 4 | 1 << 1, 0, 11, 9);
        x.gather(0, 0, 1, 1 << 4 | 1 << 1);
        bestIs(x, 1 << 4 | 1 << 5, 0, 11, 9);
        x.gather(0, 0, 1, 1 << 4 | 1 << 5);
        bestIs(x, 1 << 2 | 1 << 1, 0, 9, 9);
    }

    private static void bestIs(Book x, int... want) {
        for (int what = 0; what < want.length; what++) {
            Check.due("best(0, 0, 1, 3, " + what + ")", want[what], x.best(0, 0, 1, 3, what));
        }
    }

    /** What best() answers is looked for among all sets, by what the other calls tell of each. */
    private static void bestAmongAll() {
        Check.sentence("BEST: of all that FIT the one with the least AGAIN; of these with the greatest sum of RANKS");
        String[] texts = {"", "bar rank bowl>rank scroll;", "bar tone bowl=tone kettle and has kettle=1; bar age scroll>4;"};
        for (String text : texts) {
            Supplier<Book> books = () -> nineThings(text);
            List<int[]> rows = setsOfTheHouse(books);
            for (int kinds = 1; kinds <= 7; kinds++) {
                int[] first = null;
                int fits = 0;
                for (int[] row : rows) {
                    if (row[0] == kinds) {
                        fits++;
                        boolean better = first == null || row[2] < first[2] || row[2] == first[2] && row[3] > first[3];
                        first = better ? row : first;
                    }
                }
                Book x = books.get();
                Check.due(text + " fits " + kinds, first == null ? NONE : fits, x.best(0, 1, 3, kinds, 3));
                Check.due(text + " again " + kinds, first == null ? NONE : first[2], x.best(0, 1, 3, kinds, 1));
                Check.due(text + " ranks " + kinds, first == null ? NONE : first[3], x.best(0, 1, 3, kinds, 2));
            }
        }
    }

    private static Book nineThings(String text) {
        Book x = new Book();
        for (int t = 0; t < 9; t++) {
            x.thing(t % 3, t * 5 % 10, t % 2, t == 4 ? 1 : 15, t == 6 ? 1 : 0);
            x.days(1);
        }
        x.gather(0, 0, 1, 1 | 2 | 4);
        x.gather(0, 0, 2, 1 | 128);
        x.gather(0, 0, 3, 8 | 32);
        x.lend(5, 1);
        Check.rules(x, text);
        return x;
    }

    /** Kinds, set, again and ranks of every set that fits house 0 in season 1 for the guests 0 and 1. */
    private static List<int[]> setsOfTheHouse(Supplier<Book> books) {
        List<int[]> rows = new ArrayList<>();
        for (int set = 1; set < 512; set++) {
            Book x = books.get();
            int kinds = 0;
            int ranks = 0;
            boolean fits = x.barred(1, 3, set) == NONE;
            for (int t = 0; t < 9; t++) {
                if ((set >> t & 1) != 0) {
                    kinds |= 1 << x.of(t, 0);
                    ranks += x.of(t, 1);
                    fits &= x.of(t, 7) == 1 && x.held(t, 9, 1) == 0 && (x.of(t, 3) & 2) != 0;
                }
            }
            if (fits) {
                rows.add(new int[] {kinds, set, x.again(3, set), ranks});
            }
        }
        return rows;
    }

    private static void none() {
        Check.sentence("The constants: NONE = -1: There is none.");
        Check.due("NONE", -1, TeaBook.NONE);
    }
}
