/** A TeaBook that counts its calls: what an object answers behind its 512th call is free, so no test asks. */
final class Book {
    static final int MOST_CALLS = 512;

    private final TeaBook book = new TeaBook();
    private int calls = 0;

    private TeaBook next() {
        calls++;
        if (calls > MOST_CALLS) {
            Check.due("calls of one object", MOST_CALLS, calls);
        }
        return book;
    }

    int callsLeft() {
        return MOST_CALLS - calls;
    }

    int thing(int kind, int rank, int tone, int seasons, int house) {
        return next().thing(kind, rank, tone, seasons, house);
    }

    int copy(int t, int rank, int house) {
        return next().copy(t, rank, house);
    }

    boolean pass(int t, int house) {
        return next().pass(t, house);
    }

    boolean lend(int t, int house) {
        return next().lend(t, house);
    }

    boolean back(int t) {
        return next().back(t);
    }

    boolean burn(int t) {
        return next().burn(t);
    }

    int days(int n) {
        return next().days(n);
    }

    int look(int what) {
        return next().look(what);
    }

    int of(int t, int what) {
        return next().of(t, what);
    }

    int held(int t, int day, int what) {
        return next().held(t, day, what);
    }

    int owners(int t, int what) {
        return next().owners(t, what);
    }

    int gather(int house, int season, int guests, int set) {
        return next().gather(house, season, guests, set);
    }

    int gathering(int i, int what) {
        return next().gathering(i, what);
    }

    int seen(int g, int a, int b) {
        return next().seen(g, a, b);
    }

    int again(int guests, int set) {
        return next().again(guests, set);
    }

    int feed(int a, int b, int c, int d, int e) {
        return next().feed(a, b, c, d, e);
    }

    boolean end(int n) {
        return next().end(n);
    }

    int rules() {
        return next().rules();
    }

    int fault(int what) {
        return next().fault(what);
    }

    int barred(int season, int guests, int set) {
        return next().barred(season, guests, set);
    }

    int best(int house, int season, int guests, int kinds, int what) {
        return next().best(house, season, guests, kinds, what);
    }
}
