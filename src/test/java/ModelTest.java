import java.util.List;
import java.util.Random;

/** Long runs of mixed calls, the answers compared with those of the slow book. The seeds are fixed. */
public final class ModelTest {
    private static final int RUNS = 600;
    /** The most calls of one step, and of one text of rules. */
    private static final int LONGEST_STEP = 5;
    private static final int LONGEST_WRITING = 64;
    private static final int[] EXTREMES = {Integer.MIN_VALUE, -2, -1, 0, 1, 20, 31, 32, 255, 256, 1 << 20,
        1 << 30, Integer.MAX_VALUE};

    private final Random random;
    private final Book book = new Book();
    private final SlowBook slow = new SlowBook();
    private final int oddity;
    private final int houses;
    private final int kindsUsed;

    private ModelTest(long seed) {
        random = new Random(seed);
        oddity = seed % 3 == 0 ? 15 : 200;
        houses = 1 + random.nextInt(4);
        kindsUsed = 1 + random.nextInt(5);
    }

    public static void main(String[] args) {
        for (int run = 0; run < RUNS && Check.isClean(); run++) {
            new ModelTest(run).run(run);
        }
        Check.finish();
    }

    private void run(int run) {
        writeRules();
        int wanted = random.nextInt(20);
        for (int i = 0; i < wanted; i++) {
            come();
        }
        while (book.callsLeft() >= LONGEST_STEP && Check.isClean()) {
            step();
        }
        while (book.callsLeft() > 0 && Check.isClean()) {
            int what = pick(0, 4);
            compare("look " + what, slow.look(what), book.look(what));
        }
        if (!Check.isClean()) {
            System.out.println("in run " + run + " with " + book.callsLeft() + " calls left");
        }
    }

    private int pick(int low, int high) {
        if (random.nextInt(oddity) == 0) {
            return random.nextBoolean() ? EXTREMES[random.nextInt(EXTREMES.length)] : random.nextBoolean() ? low - 1 : high + 1;
        }
        return low + random.nextInt(high - low + 1);
    }

    private int house() {
        return pick(0, random.nextInt(6) == 0 ? 7 : houses - 1);
    }

    private int aThing() {
        return pick(0, Math.max(0, slow.look(1) - 1));
    }

    private int guests() {
        return pick(1, random.nextInt(3) == 0 ? 255 : 7);
    }

    private int bitsOfThings() {
        int size = 1 + random.nextInt(4);
        int set = 0;
        for (int i = 0; i < size; i++) {
            set |= 1 << aThing();
        }
        return random.nextInt(oddity) == 0 ? pick(0, 1 << 21) : set;
    }

    /** A set that the house could show, so that gatherings come about. */
    private int likelySet(int house) {
        int best = slow.best(house, random.nextInt(4), 1 + random.nextInt(255), 1 + random.nextInt(31), 0);
        return best == -1 || random.nextInt(3) == 0 ? bitsOfThings() : best;
    }

    private void compare(String call, int want, int got) {
        Check.due(call, want, got);
    }

    private void compare(String call, int want, boolean got) {
        compare(call, want, got ? 1 : 0);
    }

    private void step() {
        switch (random.nextInt(20)) {
            case 0 -> come();
            case 1 -> copy();
            case 2, 3, 4 -> move();
            case 5 -> go();
            case 6, 7, 8 -> askThings();
            case 9, 10, 11, 12 -> gather();
            case 13, 14 -> askGatherings();
            case 15 -> writeRules();
            case 16, 17 -> askRules();
            default -> askBest();
        }
    }

    private void come() {
        int kind = pick(0, kindsUsed - 1);
        int rank = pick(0, random.nextBoolean() ? 2 : 9);
        int tone = pick(0, 9);
        int seasons = pick(1, 15);
        int house = house();
        compare("thing " + kind + " " + rank + " " + tone + " " + seasons + " " + house,
                slow.thing(kind, rank, tone, seasons, house), book.thing(kind, rank, tone, seasons, house));
    }

    private void copy() {
        int t = aThing();
        int rank = pick(0, 9);
        int house = house();
        compare("copy " + t + " " + rank + " " + house, slow.copy(t, rank, house), book.copy(t, rank, house));
    }

    private void move() {
        int t = aThing();
        int house = house();
        String what = " " + t + " " + house;
        switch (random.nextInt(12)) {
            case 0, 1, 2 -> compare("pass" + what, slow.pass(t, house), book.pass(t, house));
            case 3, 4, 5, 6 -> compare("lend" + what, slow.lend(t, house), book.lend(t, house));
            case 7, 8, 9, 10 -> compare("back" + what, slow.back(t), book.back(t));
            default -> {
                if (random.nextInt(3) == 0) {
                    compare("burn" + what, slow.burn(t), book.burn(t));
                }
            }
        }
    }

    private void go() {
        int n = pick(1, random.nextInt(10) == 0 ? 1000 : 5);
        compare("days " + n, slow.days(n), book.days(n));
        int what = pick(0, 4);
        compare("look " + what, slow.look(what), book.look(what));
    }

    private void askThings() {
        int t = aThing();
        int what = pick(0, 8);
        compare("of " + t + " " + what, slow.of(t, what), book.of(t, what));
        compare("of 8 " + t, slow.of(t, 8), book.of(t, 8));
        int day = pick(0, slow.look(0) + random.nextInt(2));
        int who = pick(0, 1);
        compare("held " + t + " " + day + " " + who, slow.held(t, day, who), book.held(t, day, who));
        int i = pick(-1, 3);
        compare("owners " + t + " " + i, slow.owners(t, i), book.owners(t, i));
    }

    private void gather() {
        int house = house();
        int season = pick(0, 3);
        int guests = guests();
        int set = likelySet(house);
        compare("gather " + house + " " + season + " " + guests + " " + set,
                slow.gather(house, season, guests, set), book.gather(house, season, guests, set));
    }

    private void askGatherings() {
        int i = pick(0, Math.max(0, slow.look(3) - 1));
        int what = pick(0, 4);
        compare("gathering " + i + " " + what, slow.gathering(i, what), book.gathering(i, what));
        int g = pick(0, 7);
        int a = aThing();
        int b = aThing();
        compare("seen " + g + " " + a + " " + b, slow.seen(g, a, b), book.seen(g, a, b));
        int guests = guests();
        int set = random.nextBoolean() ? slow.gathering(i, 4) : bitsOfThings();
        compare("again " + guests + " " + set, slow.again(guests, set), book.again(guests, set));
    }

    private void askRules() {
        int season = pick(0, 3);
        int guests = guests();
        int set = bitsOfThings();
        compare("barred " + season + " " + guests + " " + set,
                slow.barred(season, guests, set), book.barred(season, guests, set));
        int n = pick(0, 40);
        compare("end " + n, slow.end(n), book.end(n));
    }

    private void askBest() {
        int house = house();
        int season = pick(0, 3);
        int guests = guests();
        int kinds = pick(1, (1 << kindsUsed) - 1);
        int more = random.nextInt(5);
        for (int what = 0; what < (more == 0 ? 5 : 4); what++) {
            compare("best " + house + " " + season + " " + guests + " " + kinds + " " + what,
                    slow.best(house, season, guests, kinds, what), book.best(house, season, guests, kinds, what));
        }
    }

    private void writeRules() {
        if (book.callsLeft() < LONGEST_WRITING) {
            return;
        }
        String text = text();
        for (int from = 0; from < text.length(); from += 20) {
            int[] n = Check.numbers(text, from);
            int length = slow.feed(n);
            compare("feed", length, book.feed(n[0], n[1], n[2], n[3], n[4]));
            int cut = length - Math.max(0, from + 20 - text.length());
            compare("end " + cut, slow.end(cut), book.end(cut));
        }
        compare("rules of '" + text + "'", slow.rules(), book.rules());
        for (int what = 0; what < 2; what++) {
            compare("fault " + what + " of '" + text + "'", slow.fault(what), book.fault(what));
        }
        int other = pick(-1, 2);
        compare("fault " + other, slow.fault(other), book.fault(other));
    }

    private String text() {
        StringBuilder s = new StringBuilder();
        int rules = random.nextInt(6) == 0 ? 11 + random.nextInt(4) : random.nextInt(4);
        int budget = random.nextInt(8) == 0 ? 12 : 5;
        for (int i = 0; i < rules; i++) {
            s.append("bar").append(blank()).append(either(rules > 6 ? 1 : budget)).append(';').append(maybeBlank());
        }
        if (random.nextInt(3) == 0) {
            spoil(s);
        }
        return s.length() > 600 ? s.substring(0, 600) : s.toString();
    }

    private String blank() {
        return random.nextInt(4) == 0 ? "\n " : " ";
    }

    private String maybeBlank() {
        return random.nextInt(3) == 0 ? blank() : "";
    }

    private String either(int budget) {
        StringBuilder s = new StringBuilder(clause(budget));
        while (random.nextInt(5) < 2 && s.length() < 120) {
            s.append(blank()).append(random.nextBoolean() ? "or" : "and").append(blank()).append(clause(budget));
        }
        return s.toString();
    }

    private String clause(int budget) {
        int dice = budget > 6 ? 1 + random.nextInt(2) : random.nextInt(4);
        if (budget > 0 && dice == 1) {
            return "not" + blank() + clause(budget - 1);
        }
        if (budget > 0 && dice == 2) {
            return "(" + maybeBlank() + either(budget - 1) + maybeBlank() + ")";
        }
        return term() + maybeBlank() + "<=>".charAt(random.nextInt(3)) + maybeBlank() + term();
    }

    private String term() {
        int dice = random.nextInt(8);
        if (dice < 2) {
            return "" + random.nextInt(dice == 0 ? 4 : 10);
        }
        if (dice < 4) {
            return dice == 2 ? "season" : "guests";
        }
        List<String> words = SlowBook.words();
        return words.get(6 + random.nextInt(4)) + blank() + words.get(10 + random.nextInt(5));
    }

    private void spoil(StringBuilder s) {
        List<String> words = SlowBook.words();
        int at = random.nextInt(s.length() + 1);
        switch (random.nextInt(5)) {
            case 0 -> s.setLength(at);
            case 1 -> s.insert(at, words.get(random.nextInt(words.size())));
            case 2 -> s.insert(at, ";()<=> \n19".charAt(random.nextInt(10)));
            case 3 -> s.insert(at, (char) random.nextInt(256));
            default -> s.delete(at, Math.min(s.length(), at + 1 + random.nextInt(4)));
        }
    }
}
