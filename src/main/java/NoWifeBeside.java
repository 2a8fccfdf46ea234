/**
 * Parties at a round or a long table at which none sits beside their own.
 * ../shared/DOC.md tells what each call promises; README.md tells how to use it.
 */
public final class NoWifeBeside {
    public static final int UNKNOWN = -1, OUTSIDE = -2, STATE = -3, FULL = -4, NONE = -9;

    private static final int MOST_PEOPLE = 7;
    private static final int MOST_SIGNS = 64;
    private static final int MOST_ACTS = 16;
    private static final int MOST_GOSSIP = 8;
    private static final int MOST_DINED = 99;
    private static final int MOST_TO_CHANGE = 6;
    private static final int MOST_COURSE = 9;
    private static final long SEED_FACTOR = 6364136223846793005L;
    private static final long SEED_ADDED = 1442695040888963407L;

    private final Text text = new Text();
    private final Reader reader = new Reader();
    private final Lawful lawful = new Lawful();
    private final Table table = new Table();
    private final Acts acts = new Acts();
    private final Table slot0 = new Table();
    private final Table slot1 = new Table();
    private final Gossips gossips = new Gossips();
    private final Search search = new Search();
    private Party guests = new Party();
    private Party draft = new Party();
    private long drawnBy = 0;

    public NoWifeBeside() {
    }

    // ---- the party

    public int write(int n, long v) {
        if (n < 1 || n > 8) {
            return OUTSIDE;
        }
        if (text.length + n > MOST_SIGNS) {
            return FULL;
        }
        text.add(n, v);
        return text.length;
    }

    public int wipe() {
        int was = text.length;
        text.length = 0;
        return was;
    }

    public int fault() {
        return reader.faultOf(text, draft);
    }

    public int party() {
        if (reader.faultOf(text, draft) != NONE) {
            return STATE;
        }
        Party old = guests;
        guests = draft;
        draft = old;
        lawful.forget();
        acts.size = 0;
        slot0.kept = false;
        slot1.kept = false;
        table.begin(guests.people);
        return guests.people;
    }

    public int person(int person, int what) {
        if (!guests.hasPerson(person)) {
            return UNKNOWN;
        }
        switch (what) {
            case 0:
                return Seating.chairOf(table.seating, person, guests.people);
            case 1:
                return guests.isWoman(person) ? 1 : 0;
            case 2:
                return lowestOf(Pairs.rowOf(guests.couples, person));
            case 3:
                return Pairs.rowOf(guests.quarrels, person);
            case 4:
                return Pairs.rowOf(guests.togethers, person);
            case 5:
                return guests.worthTo(person, table.seating);
            default:
                return OUTSIDE;
        }
    }

    public int chair(int chair) {
        if (!guests.hasPerson(chair)) {
            return UNKNOWN;
        }
        return Seating.personOn(table.seating, chair);
    }

    public int worth(int i, int j) {
        if (!guests.hasBoth(i, j)) {
            return UNKNOWN;
        }
        return guests.worths[Pairs.cell(i, j)];
    }

    public int dined(int i, int j) {
        if (!guests.hasBoth(i, j)) {
            return UNKNOWN;
        }
        return table.dined[Pairs.cellOfTwo(i, j)];
    }

    // ---- counted

    public int many(boolean alike) {
        lawful.list(guests);
        if (alike && guests.round && guests.people > 0) {
            return lawful.size / guests.people;
        }
        return lawful.size;
    }

    public int luck(boolean upper) {
        lawful.list(guests);
        int all = Seating.howMany(guests.people);
        int common = commonDivisor(lawful.size, all);
        if (common < 1) {
            return upper ? 0 : 1;
        }
        return (upper ? lawful.size : all) / common;
    }

    public int rank() {
        lawful.list(guests);
        return lawful.rankOf(table.seating);
    }

    public int nth(int rank, int chair) {
        if (!guests.hasPerson(chair)) {
            return UNKNOWN;
        }
        lawful.list(guests);
        if (!lawful.hasRank(rank)) {
            return OUTSIDE;
        }
        return Seating.personOn(lawful.seatingOf(rank), chair);
    }

    public int wrong() {
        return guests.firstWrong(table.seating);
    }

    // ---- acts

    public int draw() {
        lawful.list(guests);
        if (lawful.size < 1) {
            return STATE;
        }
        drawnBy = drawnBy * SEED_FACTOR + SEED_ADDED;
        int rank = (int) (drawnBy >>> 33) % lawful.size;
        actTo(lawful.seatingOf(rank));
        return rank;
    }

    public int take(int rank) {
        lawful.list(guests);
        if (!lawful.hasRank(rank)) {
            return OUTSIDE;
        }
        int was = table.seating;
        actTo(lawful.seatingOf(rank));
        return Seating.elsewhere(was, table.seating, guests.people);
    }

    public int swap(int i, int j) {
        if (!guests.hasBoth(i, j)) {
            return UNKNOWN;
        }
        if (i == j) {
            return OUTSIDE;
        }
        int a = Seating.chairOf(table.seating, i, guests.people);
        int b = Seating.chairOf(table.seating, j, guests.people);
        actTo(Seating.exchanged(table.seating, a, b));
        return lawfulNow();
    }

    public int course(int m) {
        if (m < 1 || m > MOST_COURSE) {
            return OUTSIDE;
        }
        actTo(guests.afterCourse(table.seating, m));
        return lawfulNow();
    }

    public int dinner() {
        if (table.mostDined(guests) >= MOST_DINED) {
            return FULL;
        }
        int knew = table.pairsThatDined(guests);
        acts.add(table.seating, true);
        table.dine(guests, 1);
        return knew;
    }

    public int undo() {
        if (acts.size < 1) {
            return STATE;
        }
        acts.size--;
        table.seating = acts.seatingBefore(acts.size);
        if (acts.wasDinner(acts.size)) {
            table.dine(guests, -1);
        }
        return acts.size;
    }

    // ---- the best

    public int good() {
        int good = 0;
        int men = guests.men();
        for (int m = 1; m < men && m < MOST_PEOPLE; m++) {
            if (guests.isLawful(guests.afterCourse(table.seating, m))) {
                good++;
            }
        }
        return good;
    }

    public int worthOf(boolean best) {
        if (!best) {
            return guests.weigh(table.seating, guests.worths);
        }
        lawful.list(guests);
        int rank = lawful.firstOfLeast(guests, guests.worths, -1);
        return rank < 0 ? NONE : guests.weigh(lawful.seatingOf(rank), guests.worths);
    }

    public int bestAt(int chair) {
        if (!guests.hasPerson(chair)) {
            return UNKNOWN;
        }
        lawful.list(guests);
        return lawful.personBy(lawful.firstOfLeast(guests, guests.worths, -1), chair);
    }

    public int few() {
        lawful.list(guests);
        int rank = lawful.firstOfLeast(guests, table.dined, 1);
        return rank < 0 ? NONE : guests.weigh(lawful.seatingOf(rank), table.dined);
    }

    public int fewAt(int chair) {
        if (!guests.hasPerson(chair)) {
            return UNKNOWN;
        }
        lawful.list(guests);
        return lawful.personBy(lawful.firstOfLeast(guests, table.dined, 1), chair);
    }

    public int changes(int slot) {
        if (!isSlot(slot)) {
            return UNKNOWN;
        }
        Table to = slotOf(slot);
        if (!to.kept || guests.people > MOST_TO_CHANGE) {
            return STATE;
        }
        lawful.list(guests);
        return search.fewestSwaps(lawful, guests.people, table.seating, to.seating);
    }

    // ---- gossip

    public int gossip(int i, int j, boolean beside) {
        if (!guests.hasBoth(i, j)) {
            return UNKNOWN;
        }
        if (i == j) {
            return OUTSIDE;
        }
        if (gossips.size >= MOST_GOSSIP) {
            return FULL;
        }
        gossips.add(i, j, beside);
        return gossips.size;
    }

    public int hush() {
        int was = gossips.size;
        gossips.size = 0;
        return was;
    }

    public int fits(int l) {
        if (l < 0 || l > 1) {
            return OUTSIDE;
        }
        lawful.list(guests);
        int fitting = 0;
        for (int rank = 0; rank < lawful.size; rank++) {
            if (gossips.fitsBut(l, guests, lawful.seatingOf(rank))) {
                fitting++;
            }
        }
        return fitting;
    }

    public int sat(int person, int l) {
        if (!guests.hasPerson(person)) {
            return UNKNOWN;
        }
        if (l < 0 || l > 1) {
            return OUTSIDE;
        }
        lawful.list(guests);
        int chairs = 0;
        for (int rank = 0; rank < lawful.size; rank++) {
            int seating = lawful.seatingOf(rank);
            if (gossips.fitsBut(l, guests, seating)) {
                chairs |= 1 << Seating.chairOf(seating, person, guests.people);
            }
        }
        return chairs;
    }

    public long seed(long v) {
        long was = drawnBy;
        drawnBy = v;
        return was;
    }

    // ---- slots

    public int keep(int slot) {
        if (!isSlot(slot)) {
            return UNKNOWN;
        }
        Table into = slotOf(slot);
        into.copy(table);
        into.kept = true;
        return lawfulNow();
    }

    public int again(int slot) {
        if (!isSlot(slot)) {
            return UNKNOWN;
        }
        Table from = slotOf(slot);
        if (!from.kept) {
            return STATE;
        }
        table.copy(from);
        acts.size = 0;
        return lawfulNow();
    }

    public int count(int what) {
        switch (what) {
            case 0:
                return text.length;
            case 1:
                return guests.people;
            case 2:
                return guests.people - guests.men();
            case 3:
                return guests.round ? 1 : 0;
            case 4:
                return guests.byTurns ? 1 : 0;
            case 5:
                return guests.apart ? 1 : 0;
            case 6:
                return acts.size;
            case 7:
                return gossips.size;
            case 8:
                return lawfulNow();
            default:
                return OUTSIDE;
        }
    }

    // ---- what several calls need

    private int lawfulNow() {
        return guests.isLawful(table.seating) ? 1 : 0;
    }

    private void actTo(int seating) {
        acts.add(table.seating, false);
        table.seating = seating;
    }

    private static boolean isSlot(int slot) {
        return slot == 0 || slot == 1;
    }

    private Table slotOf(int slot) {
        return slot == 0 ? slot0 : slot1;
    }

    private static int lowestOf(int bits) {
        for (int k = 0; k < MOST_PEOPLE; k++) {
            if ((bits >> k & 1) != 0) {
                return k;
            }
        }
        return NONE;
    }

    private static int commonDivisor(int a, int b) {
        int more = a;
        int less = b;
        // 7! takes far fewer steps than this
        for (int step = 0; step < 64 && less > 0; step++) {
            int left = more % less;
            more = less;
            less = left;
        }
        return more;
    }

    /**
     * A seating is one int, three bits a chair, those of chair 0 the highest:
     * so the order of these numbers is the document's order of seatings, and no row is made for one.
     */
    private static final class Seating {
        private static final int[] FACTORIALS = {1, 1, 2, 6, 24, 120, 720, 5040};
        private static final int HIGHEST = 3 * (MOST_PEOPLE - 1);

        static int howMany(int people) {
            return FACTORIALS[people & 7];
        }

        static int asTold(int people) {
            int seating = 0;
            for (int k = 0; k < people && k < MOST_PEOPLE; k++) {
                seating = with(seating, k, k);
            }
            return seating;
        }

        static int personOn(int seating, int chair) {
            return seating >> HIGHEST - 3 * chair & 7;
        }

        static int with(int seating, int chair, int person) {
            int shift = HIGHEST - 3 * chair;
            return seating & ~(7 << shift) | (person & 7) << shift;
        }

        static int chairOf(int seating, int person, int people) {
            for (int chair = 0; chair < people && chair < MOST_PEOPLE; chair++) {
                if (personOn(seating, chair) == person) {
                    return chair;
                }
            }
            return 0;
        }

        static int exchanged(int seating, int a, int b) {
            int onA = personOn(seating, a);
            int onB = personOn(seating, b);
            return with(with(seating, a, onB), b, onA);
        }

        static int elsewhere(int one, int other, int people) {
            int unlike = 0;
            for (int chair = 0; chair < people && chair < MOST_PEOPLE; chair++) {
                if (personOn(one, chair) != personOn(other, chair)) {
                    unlike++;
                }
            }
            return unlike;
        }
    }

    /**
     * Who stands to whom in some way, as eight rows of eight bits in one long,
     * or as a row of 64 numbers: the cells are numbered alike, and every number of a cell is in 0 to 63.
     */
    private static final class Pairs {
        static final int CELLS = 64;

        static int cell(int i, int j) {
            return (i & 7) << 3 | j & 7;
        }

        static int cellOfTwo(int i, int j) {
            return i < j ? cell(i, j) : cell(j, i);
        }

        static long bothWays(int i, int j) {
            return 1L << 8 * i + j | 1L << 8 * j + i;
        }

        static int rowOf(long pairs, int i) {
            return (int) (pairs >>> 8 * i) & 255;
        }
    }

    private static final class Text {
        final int[] signs = new int[MOST_SIGNS];
        int length = 0;

        void add(int n, long v) {
            for (int k = n - 1; k >= 0 && length < signs.length; k--) {
                signs[length] = (int) (v >>> 8 * k) & 255;
                length++;
            }
        }
    }

    private static final class Party {
        boolean round = false;
        boolean byTurns = false;
        boolean apart = false;
        int people = 0;
        int women = 0;
        long couples = 0;
        long quarrels = 0;
        long togethers = 0;
        long barred = 0;
        final int[] worths = new int[Pairs.CELLS];

        void clear() {
            round = false;
            byTurns = false;
            apart = false;
            people = 0;
            women = 0;
            couples = 0;
            quarrels = 0;
            togethers = 0;
            barred = 0;
            for (int k = 0; k < worths.length; k++) {
                worths[k] = 0;
            }
        }

        boolean hasPerson(int person) {
            return person >= 0 && person < people;
        }

        boolean hasBoth(int i, int j) {
            return hasPerson(i) && hasPerson(j);
        }

        boolean isWoman(int person) {
            return (women >> person & 1) != 0;
        }

        int men() {
            return people - Integer.bitCount(women);
        }

        void admit(boolean woman) {
            if (woman) {
                women |= 1 << people;
            }
            people++;
        }

        void admitCouple() {
            couples |= Pairs.bothWays(people, people + 1);
            admit(true);
            admit(false);
        }

        void settleWhoIsBarred() {
            barred = quarrels;
            if (apart) {
                barred |= couples;
            }
            if (byTurns) {
                barred |= alike();
            }
        }

        private long alike() {
            long alike = 0;
            for (int i = 0; i < people && i < MOST_PEOPLE; i++) {
                for (int j = 0; j < i; j++) {
                    if (isWoman(i) == isWoman(j)) {
                        alike |= Pairs.bothWays(i, j);
                    }
                }
            }
            return alike;
        }

        /** How many pairs of neighbours there are; those of number k sit on chair k and on the one behind it. */
        int neighbourPairs() {
            return round && people >= 3 ? people : people - 1;
        }

        int behind(int chair) {
            return chair + 1 < people ? chair + 1 : 0;
        }

        int cellOfPair(int seating, int pair) {
            return Pairs.cellOfTwo(Seating.personOn(seating, pair), Seating.personOn(seating, behind(pair)));
        }

        long neighbours(int seating) {
            long beside = 0;
            int pairs = neighbourPairs();
            int one = Seating.personOn(seating, 0);
            for (int k = 0; k < pairs && k < MOST_PEOPLE; k++) {
                int other = Seating.personOn(seating, behind(k));
                beside |= Pairs.bothWays(one, other);
                one = other;
            }
            return beside;
        }

        boolean isLawful(int seating) {
            long beside = neighbours(seating);
            return (beside & barred) == 0 && (togethers & ~beside) == 0;
        }

        int firstWrong(int seating) {
            long beside = neighbours(seating);
            long wrong = beside & barred | togethers & ~beside;
            for (int chair = 0; chair < people && chair < MOST_PEOPLE; chair++) {
                if (Pairs.rowOf(wrong, Seating.personOn(seating, chair)) != 0) {
                    return chair;
                }
            }
            return NONE;
        }

        int worthTo(int person, int seating) {
            int beside = Pairs.rowOf(neighbours(seating), person);
            int worth = 0;
            for (int other = 0; other < people && other < MOST_PEOPLE; other++) {
                if ((beside >> other & 1) != 0) {
                    worth += worths[Pairs.cell(person, other)];
                }
            }
            return worth;
        }

        /** Both cells of two neighbours count: of worths both may be filled, of dinners only one ever is. */
        int weigh(int seating, int[] weights) {
            if (weights.length < Pairs.CELLS) {
                return 0;
            }
            int sum = 0;
            int pairs = neighbourPairs();
            int one = Seating.personOn(seating, 0);
            for (int k = 0; k < pairs && k < MOST_PEOPLE; k++) {
                int other = Seating.personOn(seating, behind(k));
                sum += weights[Pairs.cell(one, other)] + weights[Pairs.cell(other, one)];
                one = other;
            }
            return sum;
        }

        int afterCourse(int seating, int m) {
            int men = men();
            if (men < 1) {
                return seating;
            }
            int after = seating;
            int ahead = 0;
            for (int chair = 0; chair < people && chair < MOST_PEOPLE; chair++) {
                int person = Seating.personOn(seating, chair);
                if (!isWoman(person)) {
                    after = Seating.with(after, chairOfMan(seating, (ahead + m) % men), person);
                    ahead++;
                }
            }
            return after;
        }

        private int chairOfMan(int seating, int which) {
            int ahead = 0;
            for (int chair = 0; chair < people && chair < MOST_PEOPLE; chair++) {
                if (!isWoman(Seating.personOn(seating, chair))) {
                    if (ahead == which) {
                        return chair;
                    }
                    ahead++;
                }
            }
            return 0;
        }
    }

    /** Reads a text sign by sign, and refuses a sign at once if nothing behind it could make a party of it. */
    private static final class Reader {
        private static final int AT_MARK = 0, AT_SHAPE = 1, AT_TURNS = 2, AT_APART = 3, AT_PART = 4;
        private static final int AT_SEX = 5, AT_FIRST = 6, AT_SECOND = 7, AT_VALUE = 8;

        private int stage = AT_MARK;
        private int kind = 0;
        private int first = 0;
        private int second = 0;

        int faultOf(Text text, Party into) {
            into.clear();
            stage = AT_MARK;
            for (int place = 0; place < text.length && place < text.signs.length; place++) {
                if (!accepts(into, text.signs[place])) {
                    return place;
                }
            }
            if (stage != AT_PART) {
                return text.length;
            }
            into.settleWhoIsBarred();
            return NONE;
        }

        private boolean accepts(Party into, int sign) {
            switch (stage) {
                case AT_MARK:
                    stage = AT_SHAPE;
                    return sign == 'M';
                case AT_SHAPE:
                    stage = AT_TURNS;
                    into.round = sign == 'r';
                    return sign == 'r' || sign == 'l';
                case AT_TURNS:
                    stage = AT_APART;
                    into.byTurns = sign == '1';
                    return sign == '0' || sign == '1';
                case AT_APART:
                    stage = AT_PART;
                    into.apart = sign == '1';
                    return sign == '0' || sign == '1';
                case AT_PART:
                    return acceptsPart(into, sign);
                case AT_SEX:
                    stage = AT_PART;
                    into.admit(sign == 'w');
                    return sign == 'w' || sign == 'm';
                case AT_FIRST:
                    stage = AT_SECOND;
                    first = sign - '0';
                    return into.hasPerson(first) && freeBeside(into, first) != 0;
                case AT_SECOND:
                    return acceptsSecond(into, sign - '0');
                default:
                    return acceptsValue(into, sign - '0');
            }
        }

        private boolean acceptsPart(Party into, int sign) {
            kind = sign;
            switch (sign) {
                case 'C':
                    if (into.people + 2 > MOST_PEOPLE) {
                        return false;
                    }
                    into.admitCouple();
                    return true;
                case 'S':
                    stage = AT_SEX;
                    return into.people < MOST_PEOPLE;
                case 'Q':
                case 'T':
                case 'W':
                    stage = AT_FIRST;
                    return someAreFree(into);
                default:
                    return false;
            }
        }

        private boolean acceptsSecond(Party into, int person) {
            if (!into.hasPerson(person) || (freeBeside(into, first) >> person & 1) == 0) {
                return false;
            }
            second = person;
            stage = AT_PART;
            if (kind == 'Q') {
                into.quarrels |= Pairs.bothWays(first, person);
            } else if (kind == 'T') {
                into.togethers |= Pairs.bothWays(first, person);
            } else {
                stage = AT_VALUE;
            }
            return true;
        }

        private boolean acceptsValue(Party into, int value) {
            if (value < 1 || value > 9) {
                return false;
            }
            into.worths[Pairs.cell(first, second)] = value;
            stage = AT_PART;
            return true;
        }

        private boolean someAreFree(Party into) {
            for (int person = 0; person < into.people && person < MOST_PEOPLE; person++) {
                if (freeBeside(into, person) != 0) {
                    return true;
                }
            }
            return false;
        }

        /** With whom this person may still be told in a part of this kind, as bits. */
        private int freeBeside(Party into, int person) {
            int free = (1 << into.people) - 1 & ~(1 << person);
            if (kind != 'W') {
                return free & ~Pairs.rowOf(into.quarrels | into.togethers, person);
            }
            for (int other = 0; other < into.people && other < MOST_PEOPLE; other++) {
                if (into.worths[Pairs.cell(person, other)] != 0) {
                    free &= ~(1 << other);
                }
            }
            return free;
        }
    }

    /** All lawful seatings of a party, in order; listed when first asked for, as many calls never ask. */
    private static final class Lawful {
        private int[] seatings = new int[1];
        private boolean listed = false;
        int size = 0;

        void forget() {
            listed = false;
            size = 0;
        }

        void list(Party party) {
            if (listed) {
                return;
            }
            listed = true;
            size = 0;
            int room = Seating.howMany(party.people);
            if (room > seatings.length) {
                seatings = new int[room];
            }
            seatFrom(this, party, 0, 0, 0);
        }

        private static void seatFrom(Lawful into, Party party, int chair, int seated, int seating) {
            if (chair >= party.people || chair >= MOST_PEOPLE) {
                if (party.isLawful(seating)) {
                    into.add(seating);
                }
                return;
            }
            int out = seated;
            if (chair > 0) {
                out |= Pairs.rowOf(party.barred, Seating.personOn(seating, chair - 1));
            }
            for (int person = 0; person < party.people && person < MOST_PEOPLE; person++) {
                if ((out >> person & 1) == 0) {
                    seatFrom(into, party, chair + 1, seated | 1 << person, Seating.with(seating, chair, person));
                }
            }
        }

        private void add(int seating) {
            if (size >= 0 && size < seatings.length) {
                seatings[size] = seating;
                size++;
            }
        }

        boolean hasRank(int rank) {
            return rank >= 0 && rank < size;
        }

        int seatingOf(int rank) {
            return rank >= 0 && rank < seatings.length ? seatings[rank] : 0;
        }

        int personBy(int rank, int chair) {
            return hasRank(rank) ? Seating.personOn(seatingOf(rank), chair) : NONE;
        }

        int rankOf(int seating) {
            int low = 0;
            int high = size;
            // 5040 seatings are halved 13 times
            for (int step = 0; step < 16 && low < high; step++) {
                int middle = (low + high) / 2;
                if (seatingOf(middle) < seating) {
                    low = middle + 1;
                } else {
                    high = middle;
                }
            }
            return low < size && seatingOf(low) == seating ? low : NONE;
        }

        /** The rank of the first seating whose weight times sign is least; NONE. */
        int firstOfLeast(Party party, int[] weights, int sign) {
            int best = NONE;
            int least = 0;
            for (int rank = 0; rank < size; rank++) {
                int weight = sign * party.weigh(seatingOf(rank), weights);
                if (best < 0 || weight < least) {
                    best = rank;
                    least = weight;
                }
            }
            return best;
        }
    }

    /**
     * Who sits where, and who dined together: of two only the cell with the lesser one first counts.
     * A slot is one too, and knows whether anything is kept there.
     */
    private static final class Table {
        final int[] dined = new int[Pairs.CELLS];
        int seating = 0;
        boolean kept = false;

        void begin(int people) {
            seating = Seating.asTold(people);
            for (int k = 0; k < dined.length; k++) {
                dined[k] = 0;
            }
        }

        void copy(Table other) {
            seating = other.seating;
            for (int k = 0; k < dined.length && k < other.dined.length; k++) {
                dined[k] = other.dined[k];
            }
        }

        int mostDined(Party party) {
            int most = 0;
            int pairs = party.neighbourPairs();
            for (int k = 0; k < pairs && k < MOST_PEOPLE; k++) {
                most = Math.max(most, dined[party.cellOfPair(seating, k)]);
            }
            return most;
        }

        int pairsThatDined(Party party) {
            int knew = 0;
            int pairs = party.neighbourPairs();
            for (int k = 0; k < pairs && k < MOST_PEOPLE; k++) {
                if (dined[party.cellOfPair(seating, k)] > 0) {
                    knew++;
                }
            }
            return knew;
        }

        void dine(Party party, int times) {
            int pairs = party.neighbourPairs();
            for (int k = 0; k < pairs && k < MOST_PEOPLE; k++) {
                dined[party.cellOfPair(seating, k)] += times;
            }
        }
    }

    /**
     * What was ahead of each act. The seating is enough: a dinner leaves it as it is,
     * so who dined is undone by the neighbours of that seating.
     */
    private static final class Acts {
        private final int[] before = new int[MOST_ACTS];
        private final boolean[] dinners = new boolean[MOST_ACTS];
        int size = 0;

        void add(int seating, boolean dinner) {
            if (size >= MOST_ACTS) {
                forgetFirst();
            }
            if (size >= 0 && size < MOST_ACTS) {
                before[size] = seating;
                dinners[size] = dinner;
                size++;
            }
        }

        private void forgetFirst() {
            for (int k = 1; k < MOST_ACTS; k++) {
                before[k - 1] = before[k];
                dinners[k - 1] = dinners[k];
            }
            size = MOST_ACTS - 1;
        }

        int seatingBefore(int act) {
            return act >= 0 && act < MOST_ACTS ? before[act] : 0;
        }

        boolean wasDinner(int act) {
            return act >= 0 && act < MOST_ACTS && dinners[act];
        }
    }

    private static final class Gossips {
        private final int[] ones = new int[MOST_GOSSIP];
        private final int[] others = new int[MOST_GOSSIP];
        private final boolean[] besides = new boolean[MOST_GOSSIP];
        int size = 0;

        void add(int i, int j, boolean beside) {
            if (size >= 0 && size < MOST_GOSSIP) {
                ones[size] = i;
                others[size] = j;
                besides[size] = beside;
                size++;
            }
        }

        boolean fitsBut(int l, Party party, int seating) {
            long neighbours = party.neighbours(seating);
            int untrue = 0;
            for (int k = 0; k < size && k < MOST_GOSSIP && untrue <= l; k++) {
                boolean beside = (neighbours & Pairs.bothWays(ones[k], others[k])) != 0;
                if (beside != besides[k] && party.hasBoth(ones[k], others[k])) {
                    untrue++;
                }
            }
            return untrue <= l;
        }
    }

    /** The fewest swaps between two seatings, over lawful ones: all that one swap reaches, then two, .. */
    private static final class Search {
        private int[] queue = new int[1];
        private int[] swaps = new int[1];
        private int queued = 0;

        int fewestSwaps(Lawful lawful, int people, int from, int to) {
            if (from == to) {
                return 0;
            }
            begin(lawful.size);
            if (reaches(lawful, people, from, to, 1)) {
                return 1;
            }
            for (int k = 0; k < queued && k < queue.length; k++) {
                int rank = queue[k];
                int next = 1 + swapsTo(rank);
                if (reaches(lawful, people, lawful.seatingOf(rank), to, next)) {
                    return next;
                }
            }
            return NONE;
        }

        private void begin(int room) {
            if (room > queue.length) {
                queue = new int[room];
                swaps = new int[room];
            }
            for (int k = 0; k < swaps.length; k++) {
                swaps[k] = 0;
            }
            queued = 0;
        }

        private int swapsTo(int rank) {
            return rank >= 0 && rank < swaps.length ? swaps[rank] : 0;
        }

        private boolean reaches(Lawful lawful, int people, int from, int to, int step) {
            for (int a = 1; a < people && a < MOST_PEOPLE; a++) {
                for (int b = 0; b < a; b++) {
                    int next = Seating.exchanged(from, a, b);
                    if (next == to) {
                        return true;
                    }
                    enqueue(lawful.rankOf(next), step);
                }
            }
            return false;
        }

        private void enqueue(int rank, int step) {
            if (rank < 0 || rank >= swaps.length || swaps[rank] != 0) {
                return;
            }
            if (queued >= 0 && queued < queue.length) {
                swaps[rank] = step;
                queue[queued] = rank;
                queued++;
            }
        }
    }
}
