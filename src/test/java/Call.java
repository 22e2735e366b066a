import java.util.Arrays;
import java.util.stream.Collectors;

/** One call with its numbers, so that a test can tell it, change a number, and make it on many books. */
record Call(String name, int... numbers) {
    /** A boolean answer counts 1 or 0. */
    int on(Book x) {
        int[] n = Arrays.copyOf(numbers, 5);
        return switch (name) {
            case "thing" -> x.thing(n[0], n[1], n[2], n[3], n[4]);
            case "copy" -> x.copy(n[0], n[1], n[2]);
            case "pass" -> bit(x.pass(n[0], n[1]));
            case "lend" -> bit(x.lend(n[0], n[1]));
            case "back" -> bit(x.back(n[0]));
            case "burn" -> bit(x.burn(n[0]));
            case "days" -> x.days(n[0]);
            case "look" -> x.look(n[0]);
            case "of" -> x.of(n[0], n[1]);
            case "held" -> x.held(n[0], n[1], n[2]);
            case "owners" -> x.owners(n[0], n[1]);
            case "gather" -> x.gather(n[0], n[1], n[2], n[3]);
            case "gathering" -> x.gathering(n[0], n[1]);
            case "seen" -> x.seen(n[0], n[1], n[2]);
            case "again" -> x.again(n[0], n[1]);
            case "feed" -> x.feed(n[0], n[1], n[2], n[3], n[4]);
            case "end" -> bit(x.end(n[0]));
            case "rules" -> x.rules();
            case "fault" -> x.fault(n[0]);
            case "barred" -> x.barred(n[0], n[1], n[2]);
            case "best" -> x.best(n[0], n[1], n[2], n[3], n[4]);
            default -> throw new IllegalArgumentException(name);
        };
    }

    /** What the document lets this call answer when it is refused. */
    int refusal() {
        return switch (name) {
            case "pass", "lend", "back", "burn", "end" -> 0;
            case "barred" -> TeaBook.NONE - 1;
            default -> TeaBook.NONE;
        };
    }

    Call with(int place, int number) {
        int[] changed = numbers.clone();
        changed[place] = number;
        return new Call(name, changed);
    }

    private static int bit(boolean answer) {
        return answer ? 1 : 0;
    }

    @Override
    public String toString() {
        return Arrays.stream(numbers).mapToObj(String::valueOf).collect(Collectors.joining(", ", name + "(", ")"));
    }
}
