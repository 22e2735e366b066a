import java.util.ArrayDeque;
import java.util.ArrayList;
import java.util.Arrays;
import java.util.Comparator;
import java.util.Deque;
import java.util.List;
import java.util.Set;
import java.util.TreeSet;

/**
 * The document a second time, by other means: it keeps only what was told, in order, and works out
 * every answer from that anew.
 */
final class SlowBook {
    private record Thing(int kind, int rank, int tone, int seasons, int day, int house, int copyOf) {
    }

    private record Deed(char what, int t, int house, int day) {
    }

    private record Gathering(int house, int day, int season, Set<Integer> guests, Set<Integer> set) {
    }

    private record Token(String text, int place) {
    }

    private record Fault(int what, int place) {
    }

    /** Where a thing is at the end of a day. */
    private record Standing(int owner, int keeper, List<Integer> owners) {
    }

    private static final List<String> KIND_NAMES = List.of("bowl", "scroll", "kettle", "vase", "scoop");
    private static final List<String> OF_KIND = List.of("rank", "tone", "age", "has");
    private static final List<String> WORDS = List.of("bar", "or", "and", "not", "season", "guests", "rank", "tone",
            "age", "has", "bowl", "scroll", "kettle", "vase", "scoop");

    private int today = 0;
    private final List<Thing> things = new ArrayList<>();
    private final List<Deed> deeds = new ArrayList<>();
    private final List<Gathering> gatherings = new ArrayList<>();
    private String tape = "";
    private List<List<String>> rules = new ArrayList<>();
    private Fault fault = null;

    private static boolean in(int n, int low, int high) {
        return low <= n && n <= high;
    }

    private static Set<Integer> members(int bits) {
        Set<Integer> all = new TreeSet<>();
        for (int i = 0; i < 32; i++) {
            if ((bits & 1 << i) != 0) {
                all.add(i);
            }
        }
        return all;
    }

    private static int bits(Set<Integer> members) {
        return members.stream().mapToInt(i -> 1 << i).sum();
    }

    private boolean came(int t) {
        return in(t, 0, things.size() - 1);
    }

    private Standing standing(int t, int day) {
        if (!came(t) || things.get(t).day > day) {
            return null;
        }
        int owner = things.get(t).house;
        int keeper = owner;
        List<Integer> owners = new ArrayList<>(List.of(owner));
        for (Deed deed : deeds) {
            if (deed.t != t || deed.day > day) {
                continue;
            }
            if (deed.what == 'x') {
                return null;
            }
            if (deed.what == 'p') {
                owner = deed.house;
                owners.add(owner);
            }
            keeper = deed.what == 'b' ? owner : deed.house;
        }
        return new Standing(owner, keeper, owners);
    }

    private boolean there(int t) {
        return standing(t, today) != null;
    }

    private boolean lent(int t) {
        char last = ' ';
        for (Deed deed : deeds) {
            if (deed.t == t) {
                last = deed.what;
            }
        }
        return last == 'l';
    }

    private int come(Thing thing) {
        if (things.size() == 20) {
            return -1;
        }
        things.add(thing);
        return things.size() - 1;
    }

    int thing(int kind, int rank, int tone, int seasons, int house) {
        boolean can = in(kind, 0, 4) && in(rank, 0, 9) && in(tone, 0, 9) && in(seasons, 1, 15) && in(house, 0, 7);
        return can ? come(new Thing(kind, rank, tone, seasons, today, house, -1)) : -1;
    }

    int copy(int t, int rank, int house) {
        if (!there(t) || !in(rank, 0, 9) || !in(house, 0, 7)) {
            return -1;
        }
        Thing old = things.get(t);
        return come(new Thing(old.kind, rank, old.tone, old.seasons, today, house, t));
    }

    private int act(boolean can, char what, int t, int house) {
        if (!can || deeds.size() == 300) {
            return 0;
        }
        deeds.add(new Deed(what, t, house, today));
        return 1;
    }

    private boolean goes(int t, int house) {
        return there(t) && in(house, 0, 7) && !lent(t) && standing(t, today).owner != house;
    }

    int pass(int t, int house) {
        return act(goes(t, house), 'p', t, house);
    }

    int lend(int t, int house) {
        return act(goes(t, house), 'l', t, house);
    }

    int back(int t) {
        return act(there(t) && lent(t), 'b', t, -1);
    }

    int burn(int t) {
        return act(there(t), 'x', t, -1);
    }

    int days(int n) {
        if (!in(n, 1, 1000) || !in(today + n, 0, 9999)) {
            return -1;
        }
        return today += n;
    }

    int look(int what) {
        long thereNow = 0;
        for (int t = 0; t < things.size(); t++) {
            thereNow += there(t) ? 1 : 0;
        }
        int[] all = {today, things.size(), (int) thereNow, gatherings.size(), rules.size()};
        return in(what, 0, 4) ? all[what] : -1;
    }

    private int root(int t) {
        return things.get(t).copyOf == -1 ? t : root(things.get(t).copyOf);
    }

    private boolean doubted(int t) {
        if (!there(t)) {
            return false;
        }
        if (things.get(t).copyOf != -1 && !there(root(t))) {
            return true;
        }
        for (int other = 0; other < things.size(); other++) {
            if (other != t && root(other) == root(t) && there(other)
                    && standing(other, today).keeper != standing(t, today).keeper) {
                return true;
            }
        }
        return false;
    }

    int of(int t, int what) {
        if (!came(t) || !in(what, 0, 8)) {
            return -1;
        }
        Thing x = things.get(t);
        int[] all = {x.kind, x.rank, x.tone, x.seasons, x.day, x.copyOf, root(t), there(t) ? 1 : 0, doubted(t) ? 1 : 0};
        return all[what];
    }

    int held(int t, int day, int what) {
        if (!in(day, 0, today) || !in(what, 0, 1) || standing(t, day) == null) {
            return -1;
        }
        return what == 0 ? standing(t, day).owner : standing(t, day).keeper;
    }

    int owners(int t, int what) {
        if (!came(t)) {
            return -1;
        }
        List<Integer> all = new ArrayList<>(List.of(things.get(t).house));
        for (Deed deed : deeds) {
            if (deed.t == t && deed.what == 'p') {
                all.add(deed.house);
            }
        }
        return what == -1 ? all.size() : in(what, 0, all.size() - 1) ? all.get(what) : -1;
    }

    private boolean isSet(int set) {
        Set<Integer> kinds = new TreeSet<>();
        for (int t : members(set)) {
            if (!came(t) || !kinds.add(things.get(t).kind)) {
                return false;
            }
        }
        return !kinds.isEmpty();
    }

    int gather(int house, int season, int guests, int set) {
        if (!in(house, 0, 7) || !in(season, 0, 3) || !in(guests, 1, 255) || !isSet(set) || gatherings.size() == 60) {
            return -1;
        }
        for (int t : members(set)) {
            if (!there(t) || standing(t, today).keeper != house) {
                return -1;
            }
        }
        gatherings.add(new Gathering(house, today, season, members(guests), members(set)));
        return gatherings.size() - 1;
    }

    int gathering(int i, int what) {
        if (!in(i, 0, gatherings.size() - 1) || !in(what, 0, 4)) {
            return -1;
        }
        Gathering g = gatherings.get(i);
        return new int[] {g.house, g.day, g.season, bits(g.guests), bits(g.set)}[what];
    }

    int seen(int g, int a, int b) {
        if (!in(g, 0, 7) || !came(a) || !came(b)) {
            return -1;
        }
        return (int) gatherings.stream()
                .filter(x -> x.guests.contains(g) && x.set.contains(a) && x.set.contains(b)).count();
    }

    private int sumAgain(Set<Integer> guests, Set<Integer> set) {
        int sum = 0;
        for (int g : guests) {
            for (int a : set) {
                for (int b : set) {
                    sum += a < b && seen(g, a, b) > 0 ? 1 : 0;
                }
            }
            for (Gathering x : gatherings) {
                sum += x.guests.contains(g) && x.set.equals(set) ? 10 : 0;
            }
        }
        return sum;
    }

    int again(int guests, int set) {
        return in(guests, 1, 255) && isSet(set) ? sumAgain(members(guests), members(set)) : -1;
    }

    int feed(int... numbers) {
        if (tape.length() + 20 > 600) {
            return -1;
        }
        for (int n : numbers) {
            for (int shift = 24; shift >= 0; shift -= 8) {
                tape += (char) (n >> shift & 255);
            }
        }
        return tape.length();
    }

    int end(int n) {
        if (!in(n, 0, tape.length())) {
            return 0;
        }
        tape = tape.substring(0, n);
        return 1;
    }

    private static int sort(char c) {
        return c >= 'a' && c <= 'z' || c >= 'A' && c <= 'Z' ? 1 : c >= '0' && c <= '9' ? 2 : 3;
    }

    private static List<Token> tokens(String text) {
        List<Token> all = new ArrayList<>();
        int i = 0;
        while (i < text.length()) {
            int from = i++;
            char c = text.charAt(from);
            if (c == ' ' || c == '\n') {
                continue;
            }
            while (sort(c) < 3 && i < text.length() && sort(text.charAt(i)) == sort(c)) {
                i++;
            }
            all.add(new Token(text.substring(from, i), from));
        }
        return all;
    }

    private static boolean isNumber(String s) {
        return s.matches("[0-9]{1,4}");
    }

    /** What may stand next is told by a state, what is open by a stack: no grammar is descended. */
    private static Fault firstFault(String text) {
        List<Token> all = tokens(text);
        all.add(new Token("END", text.length()));
        String state = "start";
        boolean second = false;
        int bars = 0;
        Deque<String> open = new ArrayDeque<>();
        for (int i = 0; i < all.size(); i++) {
            String s = all.get(i).text;
            boolean last = i == all.size() - 1;
            Fault wrong = new Fault(1, all.get(i).place);
            Fault over = new Fault(2, all.get(i).place);
            boolean term = !last && (isNumber(s) || s.equals("season") || s.equals("guests") || OF_KIND.contains(s));
            if (state.equals("start")) {
                if (last) {
                    return null;
                }
                if (!s.equals("bar")) {
                    return wrong;
                }
                if (++bars == 13) {
                    return over;
                }
                state = "clause";
            } else if (last) {
                return wrong;
            } else if (state.equals("clause") && (s.equals("not") || s.equals("("))) {
                open.push(s);
                if (open.size() == 9) {
                    return over;
                }
            } else if (state.equals("clause") || state.equals("term")) {
                if (!term) {
                    return wrong;
                }
                second = state.equals("term");
                state = OF_KIND.contains(s) ? "kind" : second ? "joint" : "sign";
            } else if (state.equals("kind")) {
                if (!KIND_NAMES.contains(s)) {
                    return wrong;
                }
                state = second ? "joint" : "sign";
            } else if (state.equals("sign")) {
                if (!s.equals("<") && !s.equals("=") && !s.equals(">")) {
                    return wrong;
                }
                state = "term";
            } else if (s.equals("and") || s.equals("or")) {
                state = "clause";
            } else if (s.equals(")") && "(".equals(open.peek())) {
                open.pop();
            } else if (s.equals(";") && open.isEmpty()) {
                state = "start";
            } else {
                return wrong;
            }
            while (state.equals("joint") && "not".equals(open.peek())) {
                open.pop();
            }
        }
        return null;
    }

    int rules() {
        fault = firstFault(tape);
        List<List<String>> fresh = new ArrayList<>();
        if (fault == null) {
            for (Token token : tokens(tape)) {
                if (token.text.equals("bar")) {
                    fresh.add(new ArrayList<>());
                } else if (!token.text.equals(";")) {
                    fresh.get(fresh.size() - 1).add(token.text);
                }
            }
            rules = fresh;
        }
        tape = "";
        return fault == null ? rules.size() : -1;
    }

    int fault(int what) {
        return what == 0 ? fault == null ? 0 : fault.what : what == 1 ? fault == null ? -1 : fault.place : -1;
    }

    private int value(List<String> term, int season, int guests, Set<Integer> set) {
        String word = term.get(0);
        if (term.size() == 1) {
            return word.equals("season") ? season : word.equals("guests") ? guests : Integer.parseInt(word);
        }
        for (int t : set) {
            Thing x = things.get(t);
            if (x.kind == KIND_NAMES.indexOf(term.get(1))) {
                return new int[] {x.rank, x.tone, today - x.day, 1}[OF_KIND.indexOf(word)];
            }
        }
        return 0;
    }

    /** Splits at the joint that binds least and stands outside of all brackets. */
    private static List<List<String>> split(List<String> e, String joint) {
        List<List<String>> parts = new ArrayList<>();
        parts.add(new ArrayList<>());
        int depth = 0;
        for (String s : e) {
            depth += s.equals("(") ? 1 : s.equals(")") ? -1 : 0;
            if (depth == 0 && s.equals(joint)) {
                parts.add(new ArrayList<>());
            } else {
                parts.get(parts.size() - 1).add(s);
            }
        }
        return parts;
    }

    private boolean so(List<String> e, int season, int guests, Set<Integer> set) {
        List<List<String>> choices = split(e, "or");
        if (choices.size() > 1) {
            return choices.stream().anyMatch(part -> so(part, season, guests, set));
        }
        List<List<String>> joined = split(e, "and");
        if (joined.size() > 1) {
            return joined.stream().allMatch(part -> so(part, season, guests, set));
        }
        if (e.get(0).equals("not")) {
            return !so(e.subList(1, e.size()), season, guests, set);
        }
        if (e.get(0).equals("(")) {
            return so(e.subList(1, e.size() - 1), season, guests, set);
        }
        for (String sign : List.of("<", "=", ">")) {
            List<List<String>> sides = split(e, sign);
            if (sides.size() == 2) {
                int order = Integer.compare(value(sides.get(0), season, guests, set),
                        value(sides.get(1), season, guests, set));
                return order == "<=>".indexOf(sign) - 1;
            }
        }
        throw new IllegalStateException("no clause: " + e);
    }

    private int firstBar(int season, Set<Integer> guests, Set<Integer> set) {
        for (int i = 0; i < rules.size(); i++) {
            if (so(rules.get(i), season, guests.size(), set)) {
                return i;
            }
        }
        return -1;
    }

    int barred(int season, int guests, int set) {
        if (!in(season, 0, 3) || !in(guests, 1, 255) || !isSet(set)) {
            return -2;
        }
        return firstBar(season, members(guests), members(set));
    }

    /** All sets that fit, each as its things in the order of their kinds. */
    private List<int[]> fitting(int house, int season, int guests, int kinds) {
        List<int[]> sets = new ArrayList<>(List.of(new int[0]));
        for (int kind : members(kinds)) {
            List<int[]> longer = new ArrayList<>();
            for (int t = 0; t < things.size(); t++) {
                Thing x = things.get(t);
                if (x.kind == kind && there(t) && standing(t, today).keeper == house
                        && members(x.seasons).contains(season)) {
                    for (int[] set : sets) {
                        int[] more = Arrays.copyOf(set, set.length + 1);
                        more[set.length] = t;
                        longer.add(more);
                    }
                }
            }
            sets = longer;
        }
        sets.removeIf(set -> firstBar(season, members(guests), asSet(set)) != -1);
        return sets;
    }

    private static Set<Integer> asSet(int[] set) {
        Set<Integer> all = new TreeSet<>();
        for (int t : set) {
            all.add(t);
        }
        return all;
    }

    private int ranks(int[] set) {
        return Arrays.stream(set).map(t -> things.get(t).rank).sum();
    }

    int best(int house, int season, int guests, int kinds, int what) {
        if (!in(house, 0, 7) || !in(season, 0, 3) || !in(guests, 1, 255) || !in(kinds, 1, 31) || !in(what, 0, 3)) {
            return -1;
        }
        List<int[]> fit = fitting(house, season, guests, kinds);
        if (fit.isEmpty()) {
            return -1;
        }
        Set<Integer> party = members(guests);
        int[] best = fit.stream().min(Comparator.<int[]>comparingInt(set -> sumAgain(party, asSet(set)))
                .thenComparing(set -> -ranks(set)).thenComparing(Arrays::compare)).get();
        return new int[] {bits(asSet(best)), sumAgain(party, asSet(best)), ranks(best), fit.size()}[what];
    }

    static List<String> words() {
        return WORDS;
    }
}
