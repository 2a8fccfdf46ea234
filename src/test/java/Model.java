import java.util.ArrayDeque;
import java.util.ArrayList;
import java.util.Arrays;
import java.util.HashMap;
import java.util.HashSet;
import java.util.List;
import java.util.Map;
import java.util.Set;

/**
 * The document once more, in the slowest and most literal form: every seating is tried for every question,
 * and a fault is found by trying what could come behind. The class is held against it in random runs.
 */
final class Model {
    static final int UNKNOWN = -1, OUTSIDE = -2, STATE = -3, FULL = -4, NONE = -9;

    /** One party, read from a text that is known to be one. */
    static final class Party {
        boolean round, turns, apart;
        final List<Boolean> women = new ArrayList<>();
        final Map<Integer, Integer> mates = new HashMap<>();
        final Set<Set<Integer>> quarrels = new HashSet<>();
        final Set<Set<Integer>> togethers = new HashSet<>();
        final Map<List<Integer>, Integer> worths = new HashMap<>();

        int people() {
            return women.size();
        }

        boolean has(int person) {
            return person >= 0 && person < people();
        }
    }

    record State(List<Integer> seating, Map<Set<Integer>, Integer> dined) {
    }

    record Gossip(int i, int j, boolean beside) {
    }

    private String text = "";
    private Party party = read("Ml00");
    private List<List<Integer>> all = List.of(List.of());
    private List<List<Integer>> lawful = List.of(List.of());
    private State now = new State(List.of(), Map.of());
    private final List<State> acts = new ArrayList<>();
    private final State[] slots = new State[2];
    private final List<Gossip> gossips = new ArrayList<>();
    private long seed = 0;

    // ---- reading

    /** The party of a whole text; null if it is none. */
    static Party read(String text) {
        if (!text.matches("(?s)M[rl][01][01].*")) {
            return null;
        }
        Party party = new Party();
        party.round = text.charAt(1) == 'r';
        party.turns = text.charAt(2) == '1';
        party.apart = text.charAt(3) == '1';
        String rest = text.substring(4);
        while (!rest.isEmpty()) {
            int length = switch (rest.charAt(0)) {
                case 'C' -> 1;
                case 'S' -> 2;
                case 'Q', 'T' -> 3;
                case 'W' -> 4;
                default -> 99;
            };
            if (rest.length() < length || !tell(party, rest.substring(0, length))) {
                return null;
            }
            rest = rest.substring(length);
        }
        return party;
    }

    private static boolean tell(Party party, String part) {
        if (part.equals("C")) {
            int woman = party.people();
            party.women.add(true);
            party.women.add(false);
            party.mates.put(woman, woman + 1);
            party.mates.put(woman + 1, woman);
            return party.people() <= 7;
        }
        if (part.matches("S[wm]")) {
            party.women.add(part.equals("Sw"));
            return party.people() <= 7;
        }
        if (!part.matches("[QT][0-9][0-9]|W[0-9][0-9][1-9]")) {
            return false;
        }
        int i = part.charAt(1) - '0';
        int j = part.charAt(2) - '0';
        if (i == j || !party.has(i) || !party.has(j)) {
            return false;
        }
        if (part.startsWith("W")) {
            return party.worths.put(List.of(i, j), part.charAt(3) - '0') == null;
        }
        Set<Integer> two = Set.of(i, j);
        if (party.quarrels.contains(two) || party.togethers.contains(two)) {
            return false;
        }
        return (part.startsWith("Q") ? party.quarrels : party.togethers).add(two);
    }

    /** Whether something behind it makes a party of it: no more than four signs are ever wanted. */
    private static boolean canGoOn(String start) {
        for (int more = 0; more <= 4; more++) {
            if (canGoOn(start, more)) {
                return true;
            }
            if (start.length() >= 4 && more == 3) {
                return false;
            }
        }
        return false;
    }

    private static boolean canGoOn(String start, int more) {
        if (more == 0) {
            return read(start) != null;
        }
        for (char next : "MrlCSwmQTW0123456789".toCharArray()) {
            if (canGoOn(start + next, more - 1)) {
                return true;
            }
        }
        return false;
    }

    // ---- law

    static Set<Set<Integer>> neighbours(Party party, List<Integer> seating) {
        Set<Set<Integer>> two = new HashSet<>();
        for (int c = 0; c + 1 < seating.size(); c++) {
            two.add(Set.of(seating.get(c), seating.get(c + 1)));
        }
        if (party.round && seating.size() >= 3) {
            two.add(Set.of(seating.get(0), seating.get(seating.size() - 1)));
        }
        return two;
    }

    private static boolean mayNot(Party party, int a, int b) {
        return party.quarrels.contains(Set.of(a, b))
            || party.apart && Integer.valueOf(b).equals(party.mates.get(a))
            || party.turns && party.women.get(a).equals(party.women.get(b));
    }

    private int wrongIn(List<Integer> seating) {
        Set<Set<Integer>> beside = neighbours(party, seating);
        for (int c = 0; c < seating.size(); c++) {
            int a = seating.get(c);
            for (int b = 0; b < seating.size(); b++) {
                if (a == b) {
                    continue;
                }
                boolean near = beside.contains(Set.of(a, b));
                if (near && mayNot(party, a, b) || !near && party.togethers.contains(Set.of(a, b))) {
                    return c;
                }
            }
        }
        return NONE;
    }

    private boolean isLawful(List<Integer> seating) {
        Set<Set<Integer>> beside = neighbours(party, seating);
        if (!beside.containsAll(party.togethers)) {
            return false;
        }
        for (Set<Integer> two : beside) {
            List<Integer> ab = new ArrayList<>(two);
            if (mayNot(party, ab.get(0), ab.get(1))) {
                return false;
            }
        }
        return true;
    }

    private int lawfulNow() {
        return isLawful(now.seating) ? 1 : 0;
    }

    private static void seatings(int people, List<Integer> start, List<List<Integer>> into) {
        if (start.size() == people) {
            into.add(List.copyOf(start));
            return;
        }
        for (int k = 0; k < people; k++) {
            if (!start.contains(k)) {
                List<Integer> next = new ArrayList<>(start);
                next.add(k);
                seatings(people, next, into);
            }
        }
    }

    private void act(List<Integer> seating) {
        act(new State(seating, now.dined));
    }

    private void act(State next) {
        acts.add(now);
        if (acts.size() > 16) {
            acts.remove(0);
        }
        now = next;
    }

    // ---- the party

    int write(int n, long v) {
        if (n < 1 || n > 8) {
            return OUTSIDE;
        }
        if (text.length() + n > 64) {
            return FULL;
        }
        for (int k = n - 1; k >= 0; k--) {
            text += (char) (v >> 8 * k & 255);
        }
        return text.length();
    }

    int wipe() {
        int was = text.length();
        text = "";
        return was;
    }

    int fault() {
        if (read(text) != null) {
            return NONE;
        }
        int good = 0;
        int bad = text.length() + 1;
        while (bad - good > 1) {
            int middle = (good + bad) / 2;
            if (canGoOn(text.substring(0, middle))) {
                good = middle;
            } else {
                bad = middle;
            }
        }
        return good;
    }

    int party() {
        Party next = read(text);
        if (next == null) {
            return STATE;
        }
        party = next;
        acts.clear();
        Arrays.fill(slots, null);
        all = new ArrayList<>();
        seatings(party.people(), List.of(), all);
        now = new State(all.get(0), Map.of());
        lawful = all.stream().filter(this::isLawful).toList();
        return party.people();
    }

    private static int bits(Set<Set<Integer>> pairs, int person) {
        int bits = 0;
        for (int k = 0; k < 7; k++) {
            if (k != person && pairs.contains(Set.of(k, person))) {
                bits |= 1 << k;
            }
        }
        return bits;
    }

    private int worthTo(int person, List<Integer> seating) {
        int sum = 0;
        Set<Set<Integer>> beside = neighbours(party, seating);
        for (int k = 0; k < party.people(); k++) {
            if (k != person && beside.contains(Set.of(k, person))) {
                sum += party.worths.getOrDefault(List.of(person, k), 0);
            }
        }
        return sum;
    }

    private int worthIn(List<Integer> seating) {
        int sum = 0;
        for (int k = 0; k < party.people(); k++) {
            sum += worthTo(k, seating);
        }
        return sum;
    }

    int person(int person, int what) {
        if (!party.has(person)) {
            return UNKNOWN;
        }
        return switch (what) {
            case 0 -> now.seating.indexOf(person);
            case 1 -> party.women.get(person) ? 1 : 0;
            case 2 -> party.mates.getOrDefault(person, NONE);
            case 3 -> bits(party.quarrels, person);
            case 4 -> bits(party.togethers, person);
            case 5 -> worthTo(person, now.seating);
            default -> OUTSIDE;
        };
    }

    int chair(int chair) {
        return party.has(chair) ? now.seating.get(chair) : UNKNOWN;
    }

    int worth(int i, int j) {
        return party.has(i) && party.has(j) ? party.worths.getOrDefault(List.of(i, j), 0) : UNKNOWN;
    }

    int dined(int i, int j) {
        if (!party.has(i) || !party.has(j)) {
            return UNKNOWN;
        }
        return i == j ? 0 : now.dined.getOrDefault(Set.of(i, j), 0);
    }

    // ---- counted

    int many(boolean alike) {
        return alike && party.round && party.people() > 0 ? lawful.size() / party.people() : lawful.size();
    }

    int luck(boolean upper) {
        int above = lawful.size();
        int below = all.size();
        for (int k = below; k > 1; k--) {
            if (above % k == 0 && below % k == 0) {
                above /= k;
                below /= k;
            }
        }
        return upper ? above : below;
    }

    int rank() {
        int rank = lawful.indexOf(now.seating);
        return rank < 0 ? NONE : rank;
    }

    int nth(int rank, int chair) {
        if (!party.has(chair)) {
            return UNKNOWN;
        }
        return rank < 0 || rank >= lawful.size() ? OUTSIDE : lawful.get(rank).get(chair);
    }

    int wrong() {
        return wrongIn(now.seating);
    }

    // ---- acts

    int draw() {
        if (lawful.isEmpty()) {
            return STATE;
        }
        seed = seed * 6364136223846793005L + 1442695040888963407L;
        int rank = (int) Long.remainderUnsigned(seed >>> 33, lawful.size());
        act(lawful.get(rank));
        return rank;
    }

    int take(int rank) {
        if (rank < 0 || rank >= lawful.size()) {
            return OUTSIDE;
        }
        act(lawful.get(rank));
        List<Integer> was = acts.get(acts.size() - 1).seating;
        int moved = 0;
        for (int k = 0; k < party.people(); k++) {
            if (was.indexOf(k) != now.seating.indexOf(k)) {
                moved++;
            }
        }
        return moved;
    }

    private static List<Integer> swapped(List<Integer> seating, int i, int j) {
        List<Integer> next = new ArrayList<>(seating);
        next.set(seating.indexOf(i), j);
        next.set(seating.indexOf(j), i);
        return next;
    }

    int swap(int i, int j) {
        if (!party.has(i) || !party.has(j)) {
            return UNKNOWN;
        }
        if (i == j) {
            return OUTSIDE;
        }
        act(swapped(now.seating, i, j));
        return lawfulNow();
    }

    private List<Integer> moved(int m) {
        List<Integer> chairs = new ArrayList<>();
        for (int c = 0; c < party.people(); c++) {
            if (!party.women.get(now.seating.get(c))) {
                chairs.add(c);
            }
        }
        List<Integer> next = new ArrayList<>(now.seating);
        for (int k = 0; k < chairs.size(); k++) {
            next.set(chairs.get((k + m) % chairs.size()), now.seating.get(chairs.get(k)));
        }
        return next;
    }

    int course(int m) {
        if (m < 1 || m > 9) {
            return OUTSIDE;
        }
        act(moved(m));
        return lawfulNow();
    }

    int dinner() {
        Set<Set<Integer>> beside = neighbours(party, now.seating);
        Map<Set<Integer>, Integer> next = new HashMap<>(now.dined);
        int knew = 0;
        for (Set<Integer> two : beside) {
            int often = next.merge(two, 1, Integer::sum);
            if (often > 99) {
                return FULL;
            }
            if (often > 1) {
                knew++;
            }
        }
        act(new State(now.seating, next));
        return knew;
    }

    int undo() {
        if (acts.isEmpty()) {
            return STATE;
        }
        now = acts.remove(acts.size() - 1);
        return acts.size();
    }

    // ---- the best

    int good() {
        int men = (int) party.women.stream().filter(w -> !w).count();
        int good = 0;
        for (int m = 1; m <= men - 1; m++) {
            if (isLawful(moved(m))) {
                good++;
            }
        }
        return good;
    }

    private List<Integer> best() {
        List<Integer> best = null;
        for (List<Integer> seating : lawful) {
            if (best == null || worthIn(seating) > worthIn(best)) {
                best = seating;
            }
        }
        return best;
    }

    private int dinedIn(List<Integer> seating) {
        int sum = 0;
        for (Set<Integer> two : neighbours(party, seating)) {
            sum += now.dined.getOrDefault(two, 0);
        }
        return sum;
    }

    private List<Integer> fewest() {
        List<Integer> fewest = null;
        for (List<Integer> seating : lawful) {
            if (fewest == null || dinedIn(seating) < dinedIn(fewest)) {
                fewest = seating;
            }
        }
        return fewest;
    }

    int worthOf(boolean best) {
        if (!best) {
            return worthIn(now.seating);
        }
        return lawful.isEmpty() ? NONE : worthIn(best());
    }

    int bestAt(int chair) {
        if (!party.has(chair)) {
            return UNKNOWN;
        }
        return lawful.isEmpty() ? NONE : best().get(chair);
    }

    int few() {
        return lawful.isEmpty() ? NONE : dinedIn(fewest());
    }

    int fewAt(int chair) {
        if (!party.has(chair)) {
            return UNKNOWN;
        }
        return lawful.isEmpty() ? NONE : fewest().get(chair);
    }

    int changes(int slot) {
        if (slot < 0 || slot > 1) {
            return UNKNOWN;
        }
        if (slots[slot] == null || party.people() == 7) {
            return STATE;
        }
        Map<List<Integer>, Integer> far = new HashMap<>();
        ArrayDeque<List<Integer>> queue = new ArrayDeque<>();
        far.put(now.seating, 0);
        queue.add(now.seating);
        while (!queue.isEmpty()) {
            List<Integer> seating = queue.remove();
            if (seating.equals(slots[slot].seating)) {
                return far.get(seating);
            }
            if (far.get(seating) > 0 && !isLawful(seating)) {
                continue;
            }
            for (int i = 0; i < party.people(); i++) {
                for (int j = 0; j < i; j++) {
                    List<Integer> next = swapped(seating, i, j);
                    if (far.putIfAbsent(next, far.get(seating) + 1) == null) {
                        queue.add(next);
                    }
                }
            }
        }
        return NONE;
    }

    // ---- gossip

    int gossip(int i, int j, boolean beside) {
        if (!party.has(i) || !party.has(j)) {
            return UNKNOWN;
        }
        if (i == j) {
            return OUTSIDE;
        }
        if (gossips.size() == 8) {
            return FULL;
        }
        gossips.add(new Gossip(i, j, beside));
        return gossips.size();
    }

    int hush() {
        int was = gossips.size();
        gossips.clear();
        return was;
    }

    private List<List<Integer>> fitting(int l) {
        return lawful.stream().filter(seating -> {
            Set<Set<Integer>> beside = neighbours(party, seating);
            return gossips.stream().filter(g -> party.has(g.i) && party.has(g.j))
                .filter(g -> beside.contains(Set.of(g.i, g.j)) != g.beside).count() <= l;
        }).toList();
    }

    int fits(int l) {
        return l < 0 || l > 1 ? OUTSIDE : fitting(l).size();
    }

    int sat(int person, int l) {
        if (!party.has(person)) {
            return UNKNOWN;
        }
        if (l < 0 || l > 1) {
            return OUTSIDE;
        }
        int chairs = 0;
        for (List<Integer> seating : fitting(l)) {
            chairs |= 1 << seating.indexOf(person);
        }
        return chairs;
    }

    long seed(long v) {
        long was = seed;
        seed = v;
        return was;
    }

    // ---- slots

    int keep(int slot) {
        if (slot < 0 || slot > 1) {
            return UNKNOWN;
        }
        slots[slot] = now;
        return lawfulNow();
    }

    int again(int slot) {
        if (slot < 0 || slot > 1) {
            return UNKNOWN;
        }
        if (slots[slot] == null) {
            return STATE;
        }
        now = slots[slot];
        acts.clear();
        return lawfulNow();
    }

    int count(int what) {
        return switch (what) {
            case 0 -> text.length();
            case 1 -> party.people();
            case 2 -> (int) party.women.stream().filter(w -> w).count();
            case 3 -> party.round ? 1 : 0;
            case 4 -> party.turns ? 1 : 0;
            case 5 -> party.apart ? 1 : 0;
            case 6 -> acts.size();
            case 7 -> gossips.size();
            case 8 -> lawfulNow();
            default -> OUTSIDE;
        };
    }
}
