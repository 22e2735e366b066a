import java.util.ArrayList;
import java.util.List;
import java.util.TreeSet;
import java.util.function.Consumer;
import java.util.function.Supplier;
import java.util.function.ToIntFunction;

/**
 * A scene, and calls at its edges. A call that is refused, or that only asks, must leave all that other
 * calls show as it was: it is made on a book of its own, and that is compared with an untouched one.
 */
final class Edge {
    private static final int NONE = TeaBook.NONE;
    private static final int MIN = Integer.MIN_VALUE;
    private static final int MAX = Integer.MAX_VALUE;

    /** What changes the book, and so needs a fresh one each. */
    private record Probe(String name, ToIntFunction<Book> ask) {
    }

    private static final List<Probe> PROBES = List.of(
            new Probe("acts that are left", Edge::actsLeft),
            new Probe("things that still come", Edge::thingsLeft),
            new Probe("gatherings that still come", Edge::gatheringsLeft),
            new Probe("bytes on the tape", Edge::tapeLength),
            new Probe("rules() of the tape", Book::rules),
            new Probe("barred() by the tape", Edge::barredByTape));

    private final Supplier<Book> scene;
    private final List<Call> calls;
    private final List<Integer> before;

    Edge(Supplier<Book> scene) {
        this.scene = scene;
        calls = callsThatAsk(scene.get());
        before = answers(scene);
    }

    /** The call is refused with the answer that its promise names, and nothing is done. */
    void refuses(String name, int... numbers) {
        Call call = new Call(name, numbers);
        asks(call.refusal(), name, numbers);
    }

    /** The call has this answer, and nothing is done. */
    void asks(int want, String name, int... numbers) {
        Call call = new Call(name, numbers);
        Check.due(call.toString(), want, call.on(scene.get()));
        unchangedBy(call.toString(), call::on);
    }

    /** The call has this answer; the book that it was made on, to look at what it did. */
    Book takes(int want, String name, int... numbers) {
        Call call = new Call(name, numbers);
        Book x = scene.get();
        Check.due(call.toString(), want, call.on(x));
        return x;
    }

    /**
     * With all else good, the number at a place is taken from low to high and refused beyond: next to the
     * ends, at the ends of int, and where bits that are shifted or cut off would come round again.
     */
    void range(int place, int low, int high, String name, int... good) {
        Call call = new Call(name, good);
        for (int n : new int[] {low, high}) {
            Call at = call.with(place, n);
            Check.due(at + " is refused", false, at.on(scene.get()) == at.refusal());
        }
        for (int n : beyond(low, high)) {
            refuses(name, call.with(place, n).numbers());
        }
    }

    static TreeSet<Integer> beyond(int low, int high) {
        TreeSet<Integer> all = new TreeSet<>(List.of(low - 1, high + 1, MIN, MIN + 1, MAX, MAX - 1));
        for (int end : new int[] {low, high}) {
            for (int round : new int[] {32, 64, 256, 1 << 16, MIN}) {
                all.add(end + round);
                all.add(end - round);
            }
            all.add(-end);
        }
        all.removeIf(n -> n >= low && n <= high);
        return all;
    }

    void unchangedBy(String name, Consumer<Book> change) {
        List<Integer> after = answers(() -> {
            Book x = scene.get();
            change.accept(x);
            return x;
        });
        for (int i = 0; i < before.size(); i++) {
            String asked = i < calls.size() ? calls.get(i).toString() : PROBES.get(i - calls.size()).name();
            Check.due(asked + " after " + name, before.get(i), after.get(i));
        }
    }

    /** A book is asked until its calls are spent, then the next one goes on. */
    private List<Integer> answers(Supplier<Book> books) {
        List<Integer> all = new ArrayList<>();
        Book x = books.get();
        for (Call call : calls) {
            if (x.callsLeft() == 0) {
                x = books.get();
            }
            all.add(call.on(x));
        }
        for (Probe probe : PROBES) {
            all.add(probe.ask().applyAsInt(books.get()));
        }
        return all;
    }

    private static List<Call> callsThatAsk(Book x) {
        int now = x.look(0);
        int things = x.look(1);
        int gatherings = x.look(3);
        List<Call> all = new ArrayList<>();
        for (int what = 0; what < 5; what++) {
            all.add(new Call("look", what));
        }
        all.add(new Call("fault", 0));
        all.add(new Call("fault", 1));
        for (int t = 0; t <= things; t++) {
            addThing(all, t, now);
        }
        for (int i = 0; i <= gatherings; i++) {
            for (int what = 0; what < 5; what++) {
                all.add(new Call("gathering", i, what));
            }
        }
        addSeen(all, things);
        for (int season = 0; season < 4; season++) {
            addBest(all, season);
        }
        return all;
    }

    private static void addThing(List<Call> all, int t, int now) {
        for (int what = 0; what < 9; what++) {
            all.add(new Call("of", t, what));
        }
        for (int what = -1; what < 4; what++) {
            all.add(new Call("owners", t, what));
        }
        for (int day : new int[] {0, 9, 10, 14, 15, 19, now - 1, now}) {
            all.add(new Call("held", t, day, 0));
            all.add(new Call("held", t, day, 1));
        }
        for (int season = 0; season < 4; season++) {
            all.add(new Call("barred", season, 255, 1 << t));
        }
    }

    private static void addSeen(List<Call> all, int things) {
        for (int a = 0; a < things; a++) {
            for (int b = a; b < things; b++) {
                for (int g = 0; g < 8; g += things > 10 ? 7 : 1) {
                    all.add(new Call("seen", g, a, b));
                }
                all.add(new Call("again", 255, 1 << a | 1 << b));
            }
        }
    }

    private static void addBest(List<Call> all, int season) {
        for (int house = 0; house < 8; house++) {
            for (int kinds : new int[] {1, 2, 4, 8, 16, 3, 31}) {
                for (int what = 0; what < 4; what++) {
                    all.add(new Call("best", house, season, 255, kinds, what));
                }
            }
        }
    }

    private static int thatIsThere(Book x) {
        for (int t = 0; t < 20; t++) {
            if (x.of(t, 7) == 1) {
                return t;
            }
        }
        return x.thing(0, 0, 0, 15, 0);
    }

    private static int actsLeft(Book x) {
        int t = thatIsThere(x);
        int other = 7 - x.held(t, x.look(0), 0);
        boolean lent = x.back(t);
        int acts = lent ? 1 : 0;
        while (x.lend(t, other)) {
            acts++;
            if (!x.back(t)) {
                break;
            }
            acts++;
        }
        return acts;
    }

    private static int thingsLeft(Book x) {
        int count = 0;
        while (x.thing(0, 0, 0, 15, 0) != NONE) {
            count++;
        }
        return count;
    }

    private static int gatheringsLeft(Book x) {
        int t = thatIsThere(x);
        int house = x.held(t, x.look(0), 1);
        int count = 0;
        while (x.gather(house, 0, 1, 1 << t) != NONE) {
            count++;
        }
        return count;
    }

    static int tapeLength(Book x) {
        int length = x.feed(0, 0, 0, 0, 0);
        if (length != NONE) {
            return length - 20;
        }
        int n = 600;
        while (n > 0 && !x.end(n)) {
            n--;
        }
        return n;
    }

    private static int barredByTape(Book x) {
        x.rules();
        int all = 0;
        for (int t = 0; t < 20; t++) {
            all = 31 * all + x.barred(1, 3, 1 << t);
        }
        return all;
    }
}
