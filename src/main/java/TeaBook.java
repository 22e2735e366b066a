/**
 * A book of tea rooms: its things, its gatherings, a school's rules, and the best set for the next
 * guests. The public methods stand in the order of the document's promises.
 */
public final class TeaBook {
    /** There is none. */
    public static final int NONE = -1;

    private static final int LAST_DAY = 9999;
    private static final int MOST_DAYS_AT_ONCE = 1000;
    private static final int KINDS = 5;
    private static final int ALL_KINDS = 31;
    private static final int HIGHEST_MARK = 9;
    private static final int SEASONS = 4;
    private static final int ALL_SEASONS = 15;
    private static final int HOUSES = 8;
    private static final int GUESTS = 8;
    private static final int ALL_GUESTS = 255;
    private static final int MOST_THINGS = 20;
    private static final int MOST_ACTS = 300;
    private static final int MOST_GATHERINGS = 60;
    private static final int SAME_SET_COUNTS = 10;

    private int day;
    private int acts;
    private final Shelf shelf;
    private final Meetings meetings;
    private final Tape tape;
    private final RuleReader reader;
    private RuleList inForce;
    private RuleList draft;
    private final TeaSet asked;
    private final Facts facts;
    private final Chooser chooser;

    public TeaBook() {
        day = 0;
        acts = 0;
        shelf = new Shelf();
        meetings = new Meetings();
        tape = new Tape();
        inForce = new RuleList();
        draft = new RuleList();
        reader = new RuleReader(tape, draft);
        asked = new TeaSet();
        facts = new Facts();
        chooser = new Chooser(shelf, meetings, inForce);
    }

    public int thing(int kind, int rank, int tone, int seasons, int house) {
        if (!isWithin(kind, 0, KINDS - 1) || !isMark(rank) || !isMark(tone)) {
            return NONE;
        }
        if (!isWithin(seasons, 1, ALL_SEASONS) || !isHouse(house) || shelf.isFull()) {
            return NONE;
        }
        Act coming = new Act(day, house);
        return shelf.put(new Thing(shelf.count(), kind, rank, tone, seasons, coming));
    }

    public int copy(int t, int rank, int house) {
        Thing model = shelf.findThere(t);
        if (model == null || !isMark(rank) || !isHouse(house) || shelf.isFull()) {
            return NONE;
        }
        return shelf.put(new Thing(shelf.count(), model, rank, new Act(day, house)));
    }

    public boolean pass(int t, int house) {
        Thing thing = findFreeFor(house, t);
        if (thing == null || !spendAct()) {
            return false;
        }
        thing.goTo(day, house);
        return true;
    }

    public boolean lend(int t, int house) {
        Thing thing = findFreeFor(house, t);
        if (thing == null || !spendAct()) {
            return false;
        }
        thing.stayWith(day, house);
        return true;
    }

    public boolean back(int t) {
        Thing thing = shelf.findThere(t);
        if (thing == null || !thing.isLent() || !spendAct()) {
            return false;
        }
        thing.stayWith(day, thing.owner());
        return true;
    }

    public boolean burn(int t) {
        Thing thing = shelf.findThere(t);
        if (thing == null || !spendAct()) {
            return false;
        }
        thing.vanish(day);
        return true;
    }

    public int days(int n) {
        if (!isWithin(n, 1, MOST_DAYS_AT_ONCE) || day + n > LAST_DAY) {
            return NONE;
        }
        day += n;
        return day;
    }

    public int look(int what) {
        switch (what) {
            case 0:
                return day;
            case 1:
                return shelf.count();
            case 2:
                return shelf.countThere();
            case 3:
                return meetings.count();
            case 4:
                return inForce.count();
            default:
                return NONE;
        }
    }

    public int of(int t, int what) {
        Thing thing = shelf.find(t);
        if (thing == null) {
            return NONE;
        }
        switch (what) {
            case 0:
                return thing.kind;
            case 1:
                return thing.rank;
            case 2:
                return thing.tone;
            case 3:
                return thing.seasons;
            case 4:
                return thing.came;
            case 5:
                return thing.copyOf;
            case 6:
                return thing.root;
            case 7:
                return thing.isThere() ? 1 : 0;
            case 8:
                return shelf.isInDoubt(thing) ? 1 : 0;
            default:
                return NONE;
        }
    }

    public int held(int t, int day, int what) {
        Thing thing = shelf.find(t);
        if (thing == null || !isWithin(day, 0, this.day) || !isWithin(what, 0, 1)) {
            return NONE;
        }
        Act act = thing.latestUpTo(day);
        if (act == null || !act.there) {
            return NONE;
        }
        return what == 0 ? act.owner : act.keeper;
    }

    public int owners(int t, int what) {
        Thing thing = shelf.find(t);
        if (thing == null) {
            return NONE;
        }
        return what == NONE ? thing.countOwners() : thing.ownerAt(what);
    }

    public int gather(int house, int season, int guests, int set) {
        if (!isHouse(house) || !isSeason(season) || !isGuests(guests) || meetings.isFull()) {
            return NONE;
        }
        if (!asked.read(set, shelf) || !asked.isAllKeptBy(house)) {
            return NONE;
        }
        return meetings.put(house, day, season, guests, asked);
    }

    public int gathering(int i, int what) {
        return meetings.tell(i, what);
    }

    public int seen(int g, int a, int b) {
        if (!isWithin(g, 0, GUESTS - 1) || shelf.find(a) == null || shelf.find(b) == null) {
            return NONE;
        }
        return meetings.countWith(1 << g, 1 << a | 1 << b);
    }

    public int again(int guests, int set) {
        if (!isGuests(guests) || !asked.read(set, shelf)) {
            return NONE;
        }
        return meetings.sumAgain(guests, asked);
    }

    public int feed(int a, int b, int c, int d, int e) {
        if (!tape.hasRoomFor(5)) {
            return NONE;
        }
        tape.append(a);
        tape.append(b);
        tape.append(c);
        tape.append(d);
        tape.append(e);
        return tape.length();
    }

    public boolean end(int n) {
        if (!isWithin(n, 0, tape.length())) {
            return false;
        }
        tape.cut(n);
        return true;
    }

    public int rules() {
        boolean good = reader.readInto(draft);
        tape.cut(0);
        if (!good) {
            return NONE;
        }
        RuleList old = inForce;
        inForce = draft;
        draft = old;
        return inForce.count();
    }

    public int fault(int what) {
        switch (what) {
            case 0:
                return reader.fault;
            case 1:
                return reader.faultPlace;
            default:
                return NONE;
        }
    }

    public int barred(int season, int guests, int set) {
        if (!isSeason(season) || !isGuests(guests) || !asked.read(set, shelf)) {
            return NONE - 1;
        }
        facts.tellParty(season, guests);
        facts.tellSet(asked, day);
        return inForce.firstThatBars(facts);
    }

    public int best(int house, int season, int guests, int kinds, int what) {
        if (!isHouse(house) || !isSeason(season) || !isGuests(guests)) {
            return NONE;
        }
        if (!isWithin(kinds, 1, ALL_KINDS) || !isWithin(what, 0, 3)) {
            return NONE;
        }
        chooser.invite(house, season, guests);
        chooser.choose(kinds, inForce, day);
        return chooser.tell(what);
    }

    /** The thing if its owner has it at hand and may give it to that other house, else null. */
    private Thing findFreeFor(int house, int t) {
        Thing thing = shelf.findThere(t);
        if (thing == null || thing.isLent() || !isHouse(house) || thing.owner() == house) {
            return null;
        }
        return thing;
    }

    private boolean spendAct() {
        if (acts >= MOST_ACTS) {
            return false;
        }
        acts++;
        return true;
    }

    private static boolean isWithin(int n, int least, int most) {
        return n >= least && n <= most;
    }

    private static boolean isMark(int n) {
        return isWithin(n, 0, HIGHEST_MARK);
    }

    private static boolean isHouse(int n) {
        return isWithin(n, 0, HOUSES - 1);
    }

    private static boolean isSeason(int n) {
        return isWithin(n, 0, SEASONS - 1);
    }

    private static boolean isGuests(int n) {
        return isWithin(n, 1, ALL_GUESTS);
    }

    /** How a thing stands from a day on, until its next act. */
    private static final class Act {
        final Act before;
        final int day;
        final int owner;
        final int keeper;
        final int turn;
        final boolean there;

        /** The coming of a thing. */
        Act(int day, int house) {
            this.before = null;
            this.day = day;
            this.owner = house;
            this.keeper = house;
            this.turn = 0;
            this.there = true;
        }

        /** The turn tells how many owners came before this one, so that one again counts again. */
        Act(Act before, int day, int owner, int keeper, int turn, boolean there) {
            this.before = before;
            this.day = day;
            this.owner = owner;
            this.keeper = keeper;
            this.turn = turn;
            this.there = there;
        }
    }

    /** A thing with the chain of its acts, the latest first. */
    private static final class Thing {
        final int number;
        final int kind;
        final int rank;
        final int tone;
        final int seasons;
        final int came;
        final int copyOf;
        final int root;
        private Act latest;

        Thing(int number, int kind, int rank, int tone, int seasons, Act coming) {
            this.number = number;
            this.kind = kind;
            this.rank = rank;
            this.tone = tone;
            this.seasons = seasons;
            this.came = coming.day;
            this.copyOf = NONE;
            this.root = number;
            this.latest = coming;
        }

        Thing(int number, Thing model, int rank, Act coming) {
            this.number = number;
            this.kind = model.kind;
            this.rank = rank;
            this.tone = model.tone;
            this.seasons = model.seasons;
            this.came = coming.day;
            this.copyOf = model.number;
            this.root = model.root;
            this.latest = coming;
        }

        int owner() {
            return latest.owner;
        }

        int keeper() {
            return latest.keeper;
        }

        boolean isThere() {
            return latest.there;
        }

        boolean isLent() {
            return latest.keeper != latest.owner;
        }

        boolean suits(int season) {
            return (seasons >> season & 1) != 0;
        }

        void goTo(int day, int house) {
            latest = new Act(latest, day, house, house, latest.turn + 1, true);
        }

        void stayWith(int day, int house) {
            latest = new Act(latest, day, latest.owner, house, latest.turn, true);
        }

        void vanish(int day) {
            latest = new Act(latest, day, latest.owner, latest.keeper, latest.turn, false);
        }

        Act latestUpTo(int day) {
            for (Act act = latest; act != null; act = act.before) {
                if (act.day <= day) {
                    return act;
                }
            }
            return null;
        }

        int countOwners() {
            return latest.turn + 1;
        }

        int ownerAt(int turn) {
            for (Act act = latest; act != null; act = act.before) {
                if (act.turn == turn) {
                    return act.owner;
                }
            }
            return NONE;
        }
    }

    /** All things that came, by their numbers. */
    private static final class Shelf {
        private final Thing[] things = new Thing[MOST_THINGS];
        private int count;

        int count() {
            return count;
        }

        boolean isFull() {
            return count >= MOST_THINGS;
        }

        int put(Thing thing) {
            if (isFull()) {
                return NONE;
            }
            things[count] = thing;
            count++;
            return count - 1;
        }

        Thing find(int t) {
            return t >= 0 && t < count ? things[t] : null;
        }

        Thing findThere(int t) {
            Thing thing = find(t);
            return thing != null && thing.isThere() ? thing : null;
        }

        int countThere() {
            int sum = 0;
            for (int t = 0; t < count; t++) {
                if (findThere(t) != null) {
                    sum++;
                }
            }
            return sum;
        }

        boolean isInDoubt(Thing thing) {
            if (!thing.isThere()) {
                return false;
            }
            // A thing that is there while its root is not can only be a copy of a burnt one.
            if (findThere(thing.root) == null) {
                return true;
            }
            for (int t = 0; t < count; t++) {
                Thing other = findThere(t);
                if (other != null && other.root == thing.root && other.keeper() != thing.keeper()) {
                    return true;
                }
            }
            return false;
        }
    }

    /** A set as one place for each kind, because it has at most one thing of each. */
    private static final class TeaSet {
        private final Thing[] byKind = new Thing[KINDS];

        Thing at(int kind) {
            return kind >= 0 && kind < KINDS ? byKind[kind] : null;
        }

        void lay(int kind, Thing thing) {
            if (kind >= 0 && kind < KINDS) {
                byKind[kind] = thing;
            }
        }

        void clear() {
            for (int kind = 0; kind < KINDS; kind++) {
                byKind[kind] = null;
            }
        }

        /** False if the bits are no set of things that came, at most one of a kind, one at least. */
        boolean read(int bits, Shelf shelf) {
            clear();
            if (bits <= 0 || bits >> shelf.count() != 0) {
                return false;
            }
            for (int t = 0; t < shelf.count(); t++) {
                Thing thing = shelf.find(t);
                if ((bits >> t & 1) != 0 && thing != null) {
                    if (at(thing.kind) != null) {
                        return false;
                    }
                    lay(thing.kind, thing);
                }
            }
            return true;
        }

        int bits() {
            int bits = 0;
            for (int kind = 0; kind < KINDS; kind++) {
                Thing thing = byKind[kind];
                if (thing != null) {
                    bits |= 1 << thing.number;
                }
            }
            return bits;
        }

        int sumRanks() {
            int sum = 0;
            for (int kind = 0; kind < KINDS; kind++) {
                Thing thing = byKind[kind];
                if (thing != null) {
                    sum += thing.rank;
                }
            }
            return sum;
        }

        boolean isAllKeptBy(int house) {
            for (int kind = 0; kind < KINDS; kind++) {
                Thing thing = byKind[kind];
                if (thing != null && (!thing.isThere() || thing.keeper() != house)) {
                    return false;
                }
            }
            return true;
        }
    }

    /** All gatherings, a row for each thing that is asked of them, and who saw which pair. */
    private static final class Meetings {
        private static final int HOUSE = 0;
        private static final int DAY = 1;
        private static final int SEASON = 2;
        private static final int PARTY = 3;
        private static final int SET = 4;
        private static final int ROWS = 5;

        private final int[][] rows = new int[ROWS][MOST_GATHERINGS];
        private final int[] pairGuests = new int[MOST_THINGS * MOST_THINGS];
        private int count;

        int count() {
            return count;
        }

        boolean isFull() {
            return count >= MOST_GATHERINGS;
        }

        int put(int house, int day, int season, int guests, TeaSet set) {
            if (isFull()) {
                return NONE;
            }
            rows[HOUSE][count] = house;
            rows[DAY][count] = day;
            rows[SEASON][count] = season;
            rows[PARTY][count] = guests;
            rows[SET][count] = set.bits();
            showPairs(set, guests);
            count++;
            return count - 1;
        }

        int tell(int i, int what) {
            return i >= 0 && i < count && what >= 0 && what < ROWS ? rows[what][i] : NONE;
        }

        private void showPairs(TeaSet set, int guests) {
            for (int i = 0; i < KINDS; i++) {
                for (int j = i + 1; j < KINDS; j++) {
                    int pair = pairOf(set.at(i), set.at(j));
                    if (pair != NONE) {
                        pairGuests[pair] |= guests;
                    }
                }
            }
        }

        int countWith(int guests, int things) {
            int times = 0;
            for (int i = 0; i < count; i++) {
                if ((rows[PARTY][i] & guests) == guests && (rows[SET][i] & things) == things) {
                    times++;
                }
            }
            return times;
        }

        int sumAgain(int guests, TeaSet set) {
            return sumPairs(guests, set) + SAME_SET_COUNTS * countSame(guests, set.bits());
        }

        private int sumPairs(int guests, TeaSet set) {
            int sum = 0;
            for (int i = 0; i < KINDS; i++) {
                for (int j = i + 1; j < KINDS; j++) {
                    int pair = pairOf(set.at(i), set.at(j));
                    if (pair != NONE) {
                        sum += Integer.bitCount(pairGuests[pair] & guests);
                    }
                }
            }
            return sum;
        }

        private int countSame(int guests, int set) {
            int sum = 0;
            for (int i = 0; i < count; i++) {
                if (rows[SET][i] == set) {
                    sum += Integer.bitCount(rows[PARTY][i] & guests);
                }
            }
            return sum;
        }

        /** Things are always paired in the order of their kinds, so one place a pair is enough. */
        private static int pairOf(Thing a, Thing b) {
            return a == null || b == null ? NONE : a.number * MOST_THINGS + b.number;
        }
    }

    /** The bytes that were fed. */
    private static final class Tape {
        static final int MOST_BYTES = 600;
        private static final int BYTES_A_NUMBER = 4;

        private final byte[] bytes = new byte[MOST_BYTES];
        private int length;

        int length() {
            return length;
        }

        boolean hasRoomFor(int numbers) {
            return length + BYTES_A_NUMBER * numbers <= MOST_BYTES;
        }

        void append(int number) {
            if (!hasRoomFor(1)) {
                return;
            }
            bytes[length] = (byte) (number >> 24);
            bytes[length + 1] = (byte) (number >> 16);
            bytes[length + 2] = (byte) (number >> 8);
            bytes[length + 3] = (byte) number;
            length += BYTES_A_NUMBER;
        }

        void cut(int n) {
            if (n >= 0 && n <= length) {
                length = n;
            }
        }

        /** The byte at a place, 0 to 255; NONE behind the end. */
        int at(int place) {
            return place >= 0 && place < length ? bytes[place] & 255 : NONE;
        }
    }

    /** What a rule's words mean for one set, one season and some guests. */
    private static final class Facts {
        /** A term below this is a number itself; one from here on names a fact. */
        static final int FIRST_TERM = 10000;
        static final int SEASON = 0;
        static final int GUEST_COUNT = 1;
        static final int RANKS = 2;
        static final int TONES = RANKS + KINDS;
        static final int AGES = TONES + KINDS;
        static final int PRESENCE = AGES + KINDS;

        private final int[] row = new int[PRESENCE + KINDS];

        void tellParty(int season, int guests) {
            row[SEASON] = season;
            row[GUEST_COUNT] = Integer.bitCount(guests);
        }

        void tellSet(TeaSet set, int day) {
            for (int kind = 0; kind < KINDS; kind++) {
                Thing thing = set.at(kind);
                row[RANKS + kind] = thing == null ? 0 : thing.rank;
                row[TONES + kind] = thing == null ? 0 : thing.tone;
                row[AGES + kind] = thing == null ? 0 : day - thing.came;
                row[PRESENCE + kind] = thing == null ? 0 : 1;
            }
        }

        int value(int term) {
            int place = term - FIRST_TERM;
            return place >= 0 && place < row.length ? row[place] : term;
        }
    }

    /** The rules as steps: an operator stands behind what it joins; a comparison has two terms. */
    private static final class RuleList {
        static final int MOST_RULES = 12;
        /** 600 bytes can't hold more: three for a comparison or a not, two for the next or. */
        private static final int MOST_STEPS = 300;

        private final int[] operators = new int[MOST_STEPS];
        private final int[] lefts = new int[MOST_STEPS];
        private final int[] rights = new int[MOST_STEPS];
        private final int[] ends = new int[MOST_RULES];
        private int steps;
        private int count;

        int count() {
            return count;
        }

        void clear() {
            steps = 0;
            count = 0;
        }

        void addStep(int operator, int left, int right) {
            if (steps < MOST_STEPS) {
                operators[steps] = operator;
                lefts[steps] = left;
                rights[steps] = right;
                steps++;
            }
        }

        void closeRule() {
            if (count < MOST_RULES) {
                ends[count] = steps;
                count++;
            }
        }

        int firstThatBars(Facts facts) {
            int from = 0;
            for (int rule = 0; rule < count; rule++) {
                if (holds(from, ends[rule], facts)) {
                    return rule;
                }
                from = ends[rule];
            }
            return NONE;
        }

        /** The open truths are the low bits, the latest lowest: 8 open at most keep them under 32. */
        private boolean holds(int from, int to, Facts facts) {
            int truths = 0;
            for (int step = from; step < to && step < MOST_STEPS; step++) {
                switch (operators[step]) {
                    case Tokens.NOT:
                        truths ^= 1;
                        break;
                    case Tokens.AND:
                        truths = truths >>> 1 & (truths | ~1);
                        break;
                    case Tokens.OR:
                        truths = truths >>> 1 | truths & 1;
                        break;
                    default:
                        truths = truths << 1 | (compares(step, facts) ? 1 : 0);
                        break;
                }
            }
            return (truths & 1) != 0;
        }

        private boolean compares(int step, Facts facts) {
            int left = facts.value(lefts[step]);
            int right = facts.value(rights[step]);
            switch (operators[step]) {
                case Tokens.LESS:
                    return left < right;
                case Tokens.MORE:
                    return left > right;
                default:
                    return left == right;
            }
        }
    }

    /** The tape, cut into tokens. */
    private static final class Tokens {
        static final int BAR = 0;
        static final int OR = 1;
        static final int AND = 2;
        static final int NOT = 3;
        static final int SEASON = 4;
        static final int GUESTS = 5;
        static final int RANK = 6;
        static final int HAS = 9;
        static final int BOWL = 10;
        static final int SCOOP = 14;
        static final int SEMICOLON = 15;
        static final int OPEN = 16;
        static final int CLOSE = 17;
        static final int LESS = 18;
        static final int SAME = 19;
        static final int MORE = 20;
        static final int NUMBER = 21;
        static final int END = 22;
        /** What can stand nowhere. */
        static final int STRANGE = 23;

        private static final int WORDS = 15;
        private static final int WORD_WIDTH = 6;
        /** The words in the order of their tokens, each filled up with blanks to the longest. */
        private static final String WORD_TABLE =
                "bar   or    and   not   seasonguestsrank  tone  age   has   bowl  scrollkettlevase  scoop ";
        private static final String SIGNS = ";()<=>";
        private static final int MOST_DIGITS = 4;
        private static final int MOST_TOKENS = Tape.MOST_BYTES + 1;

        private final Tape tape;
        private final int[] tokens = new int[MOST_TOKENS];
        private final int[] places = new int[MOST_TOKENS];
        private final int[] values = new int[MOST_TOKENS];
        private int count;

        Tokens(Tape tape) {
            this.tape = tape;
        }

        int at(int i) {
            return i >= 0 && i < count ? tokens[i] : END;
        }

        /** Where a token begins; the text's length for its end. */
        int placeOf(int i) {
            return i >= 0 && i < count ? places[i] : tape.length();
        }

        int valueOf(int i) {
            return i >= 0 && i < count ? values[i] : 0;
        }

        void cutTape() {
            count = 0;
            int place = 0;
            for (int i = 0; i < Tape.MOST_BYTES && place < tape.length(); i++) {
                int c = tape.at(place);
                if (isBlank(c)) {
                    place++;
                } else if (isLetter(c)) {
                    place = takeWord(place);
                } else if (isDigit(c)) {
                    place = takeNumber(place);
                } else {
                    int sign = SIGNS.indexOf((char) c);
                    put(sign < 0 ? STRANGE : SEMICOLON + sign, place, 0);
                    place++;
                }
            }
        }

        private void put(int token, int place, int value) {
            if (count < MOST_TOKENS) {
                tokens[count] = token;
                places[count] = place;
                values[count] = value;
                count++;
            }
        }

        private int takeWord(int from) {
            int to = from + 1;
            while (to < tape.length() && isLetter(tape.at(to))) {
                to++;
            }
            int token = STRANGE;
            for (int word = 0; word < WORDS; word++) {
                if (isWord(word, from, to)) {
                    token = word;
                }
            }
            put(token, from, 0);
            return to;
        }

        private boolean isWord(int word, int from, int to) {
            if (to - from > WORD_WIDTH) {
                return false;
            }
            for (int i = 0; i < WORD_WIDTH; i++) {
                int c = from + i < to ? tape.at(from + i) : ' ';
                if (WORD_TABLE.charAt(word * WORD_WIDTH + i) != c) {
                    return false;
                }
            }
            return true;
        }

        private int takeNumber(int from) {
            int to = from;
            int value = 0;
            while (to < tape.length() && isDigit(tape.at(to))) {
                value = value * 10 + tape.at(to) - '0';
                to++;
            }
            put(to - from > MOST_DIGITS ? STRANGE : NUMBER, from, value);
            return to;
        }

        private static boolean isBlank(int c) {
            return c == ' ' || c == '\n';
        }

        private static boolean isLetter(int c) {
            return c >= 'a' && c <= 'z' || c >= 'A' && c <= 'Z';
        }

        private static boolean isDigit(int c) {
            return c >= '0' && c <= '9';
        }
    }

    /** Reads the tape as a text of rules, and keeps its first fault. */
    private static final class RuleReader {
        private static final int OUT_OF_PLACE = 1;
        private static final int TOO_MANY = 2;
        private static final int MOST_OPEN = 8;

        private final Tokens tokens;
        private RuleList list;
        private int next;
        private int token;
        int fault;
        int faultPlace;

        RuleReader(Tape tape, RuleList list) {
            this.tokens = new Tokens(tape);
            this.list = list;
            fault = 0;
            faultPlace = NONE;
        }

        boolean readInto(RuleList target) {
            list = target;
            list.clear();
            fault = 0;
            faultPlace = NONE;
            tokens.cutTape();
            next = 0;
            token = tokens.at(next);
            for (int rule = 0; rule < RuleList.MOST_RULES && token == Tokens.BAR; rule++) {
                advance();
                readChoice(0);
                take(Tokens.SEMICOLON);
                list.closeRule();
            }
            if (token == Tokens.BAR) {
                refuse(TOO_MANY);
            } else if (token != Tokens.END) {
                refuse(OUT_OF_PLACE);
            }
            return fault == 0;
        }

        private void readChoice(int open) {
            readJoin(open);
            for (int i = 0; i < Tape.MOST_BYTES && token == Tokens.OR; i++) {
                advance();
                readJoin(open);
                list.addStep(Tokens.OR, 0, 0);
            }
        }

        private void readJoin(int open) {
            readClause(open);
            for (int i = 0; i < Tape.MOST_BYTES && token == Tokens.AND; i++) {
                advance();
                readClause(open);
                list.addStep(Tokens.AND, 0, 0);
            }
        }

        private void readClause(int open) {
            if (token != Tokens.NOT && token != Tokens.OPEN) {
                readComparison();
            } else if (open >= MOST_OPEN) {
                refuse(TOO_MANY);
            } else if (token == Tokens.NOT) {
                advance();
                readClause(open + 1);
                list.addStep(Tokens.NOT, 0, 0);
            } else {
                advance();
                readChoice(open + 1);
                take(Tokens.CLOSE);
            }
        }

        private void readComparison() {
            int left = readTerm();
            int sign = token;
            if (sign == Tokens.LESS || sign == Tokens.SAME || sign == Tokens.MORE) {
                advance();
            } else {
                refuse(OUT_OF_PLACE);
            }
            int right = readTerm();
            list.addStep(sign, left, right);
        }

        private int readTerm() {
            int term = 0;
            if (token == Tokens.NUMBER) {
                term = tokens.valueOf(next);
            } else if (token == Tokens.SEASON) {
                term = Facts.FIRST_TERM + Facts.SEASON;
            } else if (token == Tokens.GUESTS) {
                term = Facts.FIRST_TERM + Facts.GUEST_COUNT;
            } else if (token >= Tokens.RANK && token <= Tokens.HAS) {
                // The words and the facts stand in one order: rank, tone, age, has.
                term = Facts.FIRST_TERM + Facts.RANKS + (token - Tokens.RANK) * KINDS;
                advance();
                if (token >= Tokens.BOWL && token <= Tokens.SCOOP) {
                    term += token - Tokens.BOWL;
                } else {
                    refuse(OUT_OF_PLACE);
                }
            } else {
                refuse(OUT_OF_PLACE);
            }
            advance();
            return term;
        }

        private void take(int wanted) {
            if (token != wanted) {
                refuse(OUT_OF_PLACE);
            }
            advance();
        }

        /** Nothing is taken from the first fault on, because its token stays and fits nowhere. */
        private void advance() {
            if (fault == 0) {
                next++;
                token = tokens.at(next);
            }
        }

        private void refuse(int what) {
            if (fault == 0) {
                fault = what;
                faultPlace = tokens.placeOf(next);
            }
            token = Tokens.STRANGE;
        }
    }

    /** Finds the best set by laying every thing that may stand, kind by kind. */
    private static final class Chooser {
        private final Shelf shelf;
        private final Meetings meetings;
        private final TeaSet set;
        private final Facts facts;
        private RuleList list;
        private int house;
        private int season;
        private int guests;
        private int kinds;
        private int day;
        private int fits;
        private int bestSet;
        private int bestAgain;
        private int bestRanks;

        Chooser(Shelf shelf, Meetings meetings, RuleList list) {
            this.shelf = shelf;
            this.meetings = meetings;
            this.list = list;
            set = new TeaSet();
            facts = new Facts();
        }

        void invite(int house, int season, int guests) {
            this.house = house;
            this.season = season;
            this.guests = guests;
            facts.tellParty(season, guests);
        }

        void choose(int kinds, RuleList list, int day) {
            this.kinds = kinds;
            this.list = list;
            this.day = day;
            fits = 0;
            set.clear();
            layFrom(0);
        }

        int tell(int what) {
            if (fits == 0) {
                return NONE;
            }
            switch (what) {
                case 0:
                    return bestSet;
                case 1:
                    return bestAgain;
                case 2:
                    return bestRanks;
                case 3:
                    return fits;
                default:
                    return NONE;
            }
        }

        private void layFrom(int kind) {
            if (kind >= KINDS) {
                judge();
            } else if ((kinds >> kind & 1) == 0) {
                layFrom(kind + 1);
            } else {
                for (int t = 0; t < shelf.count(); t++) {
                    Thing thing = shelf.findThere(t);
                    if (thing != null && thing.kind == kind && thing.keeper() == house
                            && thing.suits(season)) {
                        set.lay(kind, thing);
                        layFrom(kind + 1);
                    }
                }
            }
        }

        private void judge() {
            facts.tellSet(set, day);
            if (list.firstThatBars(facts) != NONE) {
                return;
            }
            fits++;
            int again = meetings.sumAgain(guests, set);
            int ranks = set.sumRanks();
            // Sets come in their order, so of equals the one that was kept stays.
            if (fits == 1 || again < bestAgain || again == bestAgain && ranks > bestRanks) {
                bestSet = set.bits();
                bestAgain = again;
                bestRanks = ranks;
            }
        }
    }
}
