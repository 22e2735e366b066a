/** Books in states that have edges. */
final class Scenes {
    /** What busy() has on its tape: two rules, not yet read. */
    static final String TAPE = "bar 1=2; bar rank bowl=5;";

    private Scenes() {
    }

    /**
     * On day 20, with two rules, a fault of a later text, and a text on the tape:
     * 0 bowl, 1 scroll of house 1; 2 bowl of house 1, lent to 6 on day 10, burnt on day 15; 3 kettle of
     * house 2, lent to 1 on day 10; 4 scroll of house 1, burnt on day 15; from day 10 on 5 bowl of house 2,
     * a copy of 0; 6 bowl of house 1, a copy of 5; 7 vase of houses 1, 3 and 1; 8 scoop of house 1, lent to
     * 4 until day 15. Acts 8, gatherings 5.
     */
    static Book busy() {
        Book x = new Book();
        x.thing(0, 5, 3, 15, 1);
        x.thing(1, 4, 3, 15, 1);
        x.thing(0, 7, 2, 3, 1);
        x.thing(2, 6, 9, 15, 2);
        x.thing(1, 9, 9, 15, 1);
        x.days(10);
        x.copy(0, 3, 2);
        x.copy(5, 2, 1);
        x.thing(3, 8, 8, 9, 1);
        x.thing(4, 1, 1, 6, 1);
        x.pass(7, 3);
        x.pass(7, 1);
        x.lend(2, 6);
        x.lend(3, 1);
        x.lend(8, 4);
        x.gather(1, 0, 3, 1 | 2 | 8);
        x.days(5);
        x.back(8);
        x.burn(2);
        x.burn(4);
        x.gather(1, 1, 129, 1 | 2);
        x.days(5);
        x.gather(1, 3, 255, 64 | 128 | 256);
        x.gather(2, 0, 4, 32);
        x.gather(1, 0, 2, 2 | 8);
        Check.rules(x, "bar season=3; bar rank bowl<3 and has vase=1;");
        Check.rules(x, "bar ;");
        Check.write(x, TAPE);
        return x;
    }

    /** A bowl for every season in each of the houses 0 to 7, of the house's number. */
    static Book everywhere() {
        Book x = new Book();
        for (int house = 0; house < 8; house++) {
            x.thing(0, house, house, 15, house);
        }
        return x;
    }

    /** So many things of all kinds in turn, in house 0. */
    static Book things(int count) {
        Book x = new Book();
        for (int t = 0; t < count; t++) {
            x.thing(t % 5, t % 10, t % 10, 15, 0);
        }
        return x;
    }

    /** Things 0 to 4 of the five kinds in house 1, and so many gatherings of the bowl and the scroll. */
    static Book gatherings(int count) {
        Book x = new Book();
        for (int kind = 0; kind < 5; kind++) {
            x.thing(kind, 1, 1, 15, 1);
        }
        for (int i = 0; i < count; i++) {
            x.gather(1, 0, 255, 3);
        }
        return x;
    }

    /** Thing 0, free in house 0 or 2, thing 1, lent by house 0 to house 1, and so many acts, 1 at least. */
    static Book acts(int count) {
        Book x = new Book();
        x.thing(0, 1, 1, 15, 0);
        x.thing(1, 1, 1, 15, 0);
        for (int i = 0; i < count - 1; i++) {
            x.pass(0, i % 2 == 0 ? 2 : 0);
        }
        x.lend(1, 1);
        return x;
    }

    /** A bowl of day 0 in house 0, and so many days gone by. */
    static Book day(int now) {
        Book x = new Book();
        x.thing(0, 1, 1, 15, 0);
        for (int left = now; left > 0; left -= 1000) {
            x.days(Math.min(left, 1000));
        }
        return x;
    }

    /** A tape of so many bytes, blanks with a rule at the end. */
    static Book tape(int length) {
        Book x = new Book();
        x.thing(0, 1, 1, 15, 0);
        String rule = "bar 1=1;";
        Check.write(x, length < rule.length() ? " ".repeat(length) : " ".repeat(length - rule.length()) + rule);
        return x;
    }
}
