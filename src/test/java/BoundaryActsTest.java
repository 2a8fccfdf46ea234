import java.math.BigInteger;

/** Promises 15 to 20, sentence by sentence: acts, what they refuse, the row of them, and how they are undone. */
public final class BoundaryActsTest extends Sentences {
    private static final BigInteger FACTOR = new BigInteger("6364136223846793005");
    private static final BigInteger ADDED = new BigInteger("1442695040888963407");
    private static final BigInteger TURN = BigInteger.ONE.shiftLeft(64);

    public static void main(String[] args) {
        draws();
        drawsOfNone();
        takes();
        ranksThatThereAreNot();
        swaps();
        coursesOfSoManyMen();
        courses();
        dinners();
        dinnersAroundTheTable();
        fullDinners();
        onlyOnePairIsFull();
        undoneOneByOne();
        sixteenActs();
        forgottenDinners();
        noActs();
        end(15, 20);
    }

    // ---- promise 15

    private static void draws() {
        sentence(15, "becomes x times 6364136223846793005 and 1442695040888963407 (64 bits, wrapping); "
            + "its upper 31 bits, by MANY, what is left: the RANK of THE SEATING then.");
        long[] seeds = {0, 1, -1, 2, -5, Long.MIN_VALUE, Long.MAX_VALUE, 1L << 33, 1L << 32, -1442695040888963407L};
        String[] parties = {"Ml00", "Mr11Sw", "Ml00C", "Mr11CCC", "Ml00SwSmSmT01", "Mr01CCC", "Mr00CCCSw"};
        int[] many = {1, 1, 2, 12, 4, 192, 5040};
        for (long seed : seeds) {
            for (int k = 0; k < parties.length; k++) {
                drawnBy(seed, parties[k], many[k]);
            }
        }
    }

    private static void drawnBy(long seed, String party, int many) {
        NoWifeBeside x = at(party);
        x.seed(seed);
        BigInteger drawn = BigInteger.valueOf(seed);
        for (int k = 0; k < 5; k++) {
            drawn = drawn.multiply(FACTOR).add(ADDED).mod(TURN);
            int rank = drawn.shiftRight(33).mod(BigInteger.valueOf(many)).intValue();
            due("draw() of " + party + " by " + seed, x.draw(), rank);
            due("rank()", x.rank(), rank);
            due("acts", x.count(6), k + 1);
        }
        due("the seed then", x.seed(0), drawn.longValue());
    }

    private static void drawsOfNone() {
        sentence(15, "STATE: nothing is LAWFUL (THE SEED stays).");
        for (String party : new String[] {"Mr11C", "Ml10SwSw", "Mr00SwSmSmQ01", "Mr11CCCSw"}) {
            NoWifeBeside x = at(party);
            x.seed(Long.MIN_VALUE);
            String sat = seated(x);
            due("draw() of " + party, x.draw(), STATE);
            due("the seed", x.seed(5), Long.MIN_VALUE);
            due("draw() of " + party, x.draw(), STATE);
            due("the seed", x.seed(5), 5);
            due("acts", x.count(6), 0);
            due("seated", seated(x), sat);
        }
    }

    // ---- promise 16

    private static void takes() {
        sentence(16, "how many sit elsewhere than they did");
        NoWifeBeside x = at("Ml00SwSmSm");
        String[] all = {"012", "021", "102", "120", "201", "210"};
        int[] moved = {0, 2, 3, 2, 3, 2};
        for (int rank = 0; rank < 6; rank++) {
            due("take(" + rank + ")", x.take(rank), moved[rank]);
            due("seated", seated(x), all[rank]);
            due("take(" + rank + ") again", x.take(rank), 0);
            due("acts, where nobody moved too", x.count(6), 2 * rank + 2);
        }
        x = at("Mr00CCCSw");
        due("take(5039)", x.take(5039), 6);
        due("seated", seated(x), "6543210");
        due("take(0)", x.take(0), 6);
        due("take(1)", x.take(1), 2);
        x = at("Mr11CCC");
        due("from an unlawful one", x.take(0), 4);
        due("seated", seated(x), "034125");
        due("take(0) of nobody", at("Mr11").take(0), 0);
        due("take(0) of one", at("Mr11Sm").take(0), 0);
    }

    private static void ranksThatThereAreNot() {
        sentence(16, "OUTSIDE: there is no such RANK.");
        String[] parties = {"Ml00", "Mr11", "Ml00Sw", "Ml00SwSmSmQ01", "Ml00SwSmSm", "Mr11CCC", "Mr00CCCSw", "Mr11C",
            "Mr00SwSmSmQ01"};
        int[] many = {1, 1, 1, 2, 6, 12, 5040, 0, 0};
        for (int k = 0; k < parties.length; k++) {
            NoWifeBeside x = at(parties[k]);
            String sat = seated(x);
            for (int rank : new int[] {many[k], many[k] + 1, 5040, -1, LEAST, MOST}) {
                due("take(" + rank + ") of " + parties[k], x.take(rank), OUTSIDE);
            }
            due("acts", x.count(6), 0);
            due("seated", seated(x), sat);
            if (many[k] > 0) {
                due("take of the last", x.take(many[k] - 1) >= 0 ? 1 : 0, 1);
                due("rank()", x.rank(), many[k] - 1);
            }
        }
    }

    // ---- promise 17

    private static void swaps() {
        sentence(17, "A SWAP: 1 if it is LAWFUL then, 0.");
        NoWifeBeside x = at("Ml00SwSmSmQ01");
        due("to 021", x.swap(1, 2), 1);
        due("to 120", x.swap(1, 0), 1);
        due("to 210", x.swap(2, 1), 0);
        due("seated", seated(x), "210");
        due("acts", x.count(6), 3);
        x = at("Mr00CCCSm");
        due("first and last", x.swap(0, 6), 1);
        due("seated", seated(x), "6123450");
        sentence(17, "UNKNOWN: both; OUTSIDE: both are one.");
        for (int people : new int[] {0, 1, 3, 6, 7}) {
            x = at(singles("Ml00", "mwmwmwm".substring(0, people)));
            for (int no : noneOf(people)) {
                due("swap(" + no + ", 0)", x.swap(no, 0), UNKNOWN);
                due("swap(0, " + no + ")", x.swap(0, no), UNKNOWN);
                due("swap(" + no + ", itself)", x.swap(no, no), UNKNOWN);
            }
            for (int k = 0; k < people; k++) {
                due("swap(" + k + ", itself)", x.swap(k, k), OUTSIDE);
            }
            due("acts", x.count(6), 0);
            due("seated", seated(x), "0123456".substring(0, people));
        }
    }

    // ---- promise 18

    /** Those men moved on by m, the others as they were: the slow way, one chair of a man at a time. */
    private static String movedOn(String seating, String men, int m) {
        char[] now = seating.toCharArray();
        for (int step = 0; step < m; step++) {
            char[] next = now.clone();
            for (int c = 0; c < now.length; c++) {
                if (men.indexOf(now[c]) >= 0) {
                    int to = (c + 1) % now.length;
                    while (men.indexOf(now[to]) < 0) {
                        to = (to + 1) % now.length;
                    }
                    next[to] = now[c];
                }
            }
            now = next;
        }
        return new String(now);
    }

    private static void coursesOfSoManyMen() {
        sentence(18, "A COURSE of m (1 to 9): on CHAIRS on which men sit, in order, "
            + "each man moves on by m of these (round).");
        String[] sexes = {"", "w", "m", "ww", "wm", "mm", "mwm", "wmwm", "mmwww", "mwmwm", "wmwmwm", "mwmmmwm",
            "mmmmmm", "mmmmmmm", "wwwwwww"};
        String[] seatings = {"", "0", "0", "10", "10", "10", "201", "3120", "40213", "42130", "531042", "6315204",
            "123450", "6012345", "1023456"};
        for (int k = 0; k < sexes.length; k++) {
            String men = "";
            for (int p = 0; p < sexes[k].length(); p++) {
                men += sexes[k].charAt(p) == 'm' ? "" + p : "";
            }
            for (int m = 1; m <= 9; m++) {
                NoWifeBeside x = at(singles(m % 2 == 0 ? "Mr00" : "Ml00", sexes[k]));
                seat(x, seatings[k]);
                int acts = x.count(6);
                due("course(" + m + ") of " + sexes[k], x.course(m), 1);
                due("seated", seated(x), movedOn(seatings[k], men, m));
                due("an act, even if nobody moved", x.count(6), acts + 1);
            }
        }
    }

    private static void courses() {
        sentence(18, "A COURSE of m: 1 if it is LAWFUL then, 0. OUTSIDE.");
        NoWifeBeside x = at("Mr11CCC");
        due("course(1)", x.course(1), 1);
        due("seated", seated(x), "052143");
        due("course(1)", x.course(1), 0);
        due("course(3), which is none", x.course(3), 0);
        due("course(2)", x.course(2), 1);
        for (int m : new int[] {0, -1, 10, 11, 256 + 1, LEAST, LEAST + 1, MOST}) {
            due("course(" + m + ")", x.course(m), OUTSIDE);
        }
        due("acts", x.count(6), 4);
        due("seated", seated(x), "052143");
        x = at("Mr11C");
        due("where nothing is lawful", x.course(1), 0);
        due("where there is nobody", new NoWifeBeside().course(9), 1);
        due("where there is nobody, outside", new NoWifeBeside().course(10), OUTSIDE);
    }

    // ---- promise 19

    private static void dinners() {
        sentence(19, "A DINNER: all that are NEIGHBOURS have DINED together once more.");
        NoWifeBeside x = at("Ml00SwSwSmSm");
        x.dinner();
        due("dined", dinedTogether(x), "1 0 0 1 0 1");
        x.dinner();
        due("dined", dinedTogether(x), "2 0 0 2 0 2");
        seat(x, "2031");
        x.dinner();
        due("dined", dinedTogether(x), "2 1 1 2 1 2");
        x = at("Ml10SwSwQ01");
        due("an unlawful dinner", x.dinner(), 0);
        due("dined", dinedTogether(x), "1");
        sentence(19, "how many pairs of NEIGHBOURS had DINED together ahead of it");
        x = at("Ml00SwSwSmSm");
        due("the first", x.dinner(), 0);
        due("the second", x.dinner(), 3);
        seat(x, "2031");
        due("with others", x.dinner(), 0);
        seat(x, "2013");
        due("20, 01, 13", x.dinner(), 3);
        seat(x, "3012");
        due("30, 01, 12", x.dinner(), 3);
        x = at("Ml00SwSwSmSm");
        x.dinner();
        seat(x, "0132");
        due("01 and 32", x.dinner(), 2);
        due("nobody dines", new NoWifeBeside().dinner(), 0);
        x = new NoWifeBeside();
        x.dinner();
        due("nobody dines, again", x.dinner(), 0);
        due("acts", x.count(6), 2);
    }

    private static void dinnersAroundTheTable() {
        sentence(19, "those of numbers next to each other are NEIGHBOURS, "
            + "at a ROUND table of three or more the first one and the last one, too");
        NoWifeBeside x = at("Mr00SwSwSw");
        due("three, round", x.dinner(), 0);
        due("dined", dinedTogether(x), "1 1 1");
        due("three, round, again", x.dinner(), 3);
        x = at("Ml00SwSwSw");
        x.dinner();
        due("three, long", dinedTogether(x), "1 0 1");
        due("three, long, again", x.dinner(), 2);
        x = at("Mr00SwSw");
        x.dinner();
        due("two, round", dinedTogether(x), "1");
        due("two, round, again", x.dinner(), 1);
        due("two, round, twice", dinedTogether(x), "2");
        x = at("Mr00Sw");
        due("one, round", x.dinner(), 0);
        due("one, round, again", x.dinner(), 0);
        due("with itself", x.dined(0, 0), 0);
        x = at("Mr00CCCSw");
        x.dinner();
        due("seven, round, again", x.dinner(), 7);
        x = at("Ml00CCCSw");
        x.dinner();
        due("seven, long, again", x.dinner(), 6);
    }

    private static NoWifeBeside dinedOften(String party, int times) {
        NoWifeBeside x = at(party);
        for (int k = 0; k < times; k++) {
            x.dinner();
        }
        return x;
    }

    private static void fullDinners() {
        sentence(19, "FULL: two of them did 99 times.");
        for (String party : new String[] {"Mr00SwSw", "Ml00SwSw", "Mr00SwSwSw", "Ml00CCCSw"}) {
            NoWifeBeside x = dinedOften(party, 98);
            due("98 times", x.dined(0, 1), 98);
            due("the 99th", x.dinner() > 0 ? 1 : 0, 1);
            due("99 times", x.dined(0, 1), 99);
            due("acts", x.count(6), 16);
            due("the 100th", x.dinner(), FULL);
            due("99 times still", x.dined(1, 0), 99);
            due("undo()", x.undo(), 15);
            due("98 times again", x.dined(0, 1), 98);
            due("room for one", x.dinner() > 0 ? 1 : 0, 1);
            due("and no more", x.dinner(), FULL);
        }
        NoWifeBeside x = dinedOften("Ml00SwSwSmSm", 99);
        seat(x, "2031");
        due("others did not yet", x.dinner(), 0);
        due("dined", dinedTogether(x), "99 1 1 99 1 99");
        seat(x, "2013");
        due("01 did", x.dinner(), FULL);
        due("and nobody dined", dinedTogether(x), "99 1 1 99 1 99");
        due("nobody never is", dinedOften("Ml00", 120).dinner(), 0);
        due("one never is", dinedOften("Mr00Sw", 120).dinner(), 0);
    }

    private static void onlyOnePairIsFull() {
        sentence(19, "FULL: two of them did 99 times.");
        String[] parties = {"Ml00SwSwSwSw", "Ml00SwSwSwSw", "Ml00SwSwSwSw", "Mr00SwSwSwSwSw"};
        String[] first = {"2013", "2013", "2013", "01234"};
        String[] second = {"3012", "3012", "3012", "03124"};
        String[] then = {"0123", "2013", "2301", "01324"};
        for (int k = 0; k < parties.length; k++) {
            NoWifeBeside x = at(parties[k]);
            seat(x, first[k]);
            for (int times = 0; times < 99; times++) {
                if (times == 49) {
                    seat(x, second[k]);
                }
                x.dinner();
            }
            seat(x, then[k]);
            String dined = dinedTogether(x);
            int full = 0;
            for (int c = 0; c < then[k].length(); c++) {
                boolean last = c + 1 == then[k].length();
                int next = last ? 0 : c + 1;
                full += !(last && parties[k].startsWith("Ml")) && x.dined(x.chair(c), x.chair(next)) == 99 ? 1 : 0;
            }
            due("pairs that are full", full, 1);
            due("pair " + k + " of " + parties[k], x.dinner(), FULL);
            due("dined", dinedTogether(x), dined);
        }
    }

    // ---- promise 20

    private static void undoneOneByOne() {
        sentence(20, "the last one can be undone (THE SEATING, who DINED together are as they were)");
        NoWifeBeside x = at("Ml00CSwSm");
        x.seed(3);
        x.swap(0, 3);
        x.dinner();
        x.course(1);
        x.dinner();
        x.take(23);
        x.dinner();
        x.draw();
        long seed = x.seed(11);
        due("undo() of a draw", x.undo(), 6);
        due("seated", seated(x), "3210");
        due("the seed is not undone", x.seed(seed), 11);
        due("undo() of a dinner", x.undo(), 5);
        due("dined", dinedTogether(x), "0 2 0 1 2 1");
        due("seated", seated(x), "3210");
        due("undo() of a take", x.undo(), 4);
        due("seated", seated(x), "1320");
        due("dined", dinedTogether(x), "0 2 0 1 2 1");
        due("undo() of a dinner", x.undo(), 3);
        due("undo() of a course", x.undo(), 2);
        due("seated", seated(x), "3120");
        due("dined", dinedTogether(x), "0 1 0 1 1 0");
        due("undo() of a dinner", x.undo(), 1);
        due("dined", dinedTogether(x), "0 0 0 0 0 0");
        due("undo() of a swap", x.undo(), 0);
        due("seated", seated(x), "0123");
        sentence(20, "STATE: there is none.");
        due("undo() of nothing", x.undo(), STATE);
        due("seated", seated(x), "0123");
        due("undo() of a new one", new NoWifeBeside().undo(), STATE);
        due("undo() of a new party", at("Ml00C").undo(), STATE);
    }

    private static void sixteenActs() {
        sentence(20, "ACTS (DRAWN, TAKEN, SWAPS, COURSES, DINNERS) are a row "
            + "(16 at most; of more the first one is forgotten)");
        for (int acts = 14; acts <= 30; acts++) {
            NoWifeBeside x = at("Ml00SwSmSm");
            String[] was = new String[acts + 1];
            was[0] = seatedAndDined(x);
            for (int k = 0; k < acts; k++) {
                due("acts ahead", x.count(6), Math.min(k, 16));
                actOfKind(x, k);
                was[k + 1] = seatedAndDined(x);
            }
            int left = Math.min(acts, 16);
            due("acts", x.count(6), left);
            for (int k = acts - 1; left > 0; k--) {
                left--;
                due("undo()", x.undo(), left);
                due("seated, dined", seatedAndDined(x), was[k]);
            }
            due("undo()", x.undo(), STATE);
            due("as when the first was forgotten", seatedAndDined(x), was[Math.max(0, acts - 16)]);
        }
    }

    private static String seatedAndDined(NoWifeBeside x) {
        return seated(x) + ", " + dinedTogether(x);
    }

    private static void actOfKind(NoWifeBeside x, int k) {
        switch (k % 5) {
            case 0 -> x.swap(k % 3, (k + 1) % 3);
            case 1 -> x.dinner();
            case 2 -> x.course(1 + k % 9);
            case 3 -> x.take((k * 7 + 3) % 6);
            default -> x.draw();
        }
    }

    private static void forgottenDinners() {
        sentence(20, "of more the first one is forgotten");
        for (int dinners = 15; dinners <= 18; dinners++) {
            NoWifeBeside x = dinedOften("Mr00SwSwSw", dinners);
            int left = Math.min(dinners, 16);
            due("acts", x.count(6), left);
            for (int k = left - 1; k >= 0; k--) {
                due("undo()", x.undo(), k);
            }
            due("undo()", x.undo(), STATE);
            due("dinners that can't be undone", x.dined(0, 2), dinners - left);
        }
        sentence(20, "The last ACT is undone: how many are left.");
        NoWifeBeside x = at("Ml00SwSmSm");
        for (int k = 0; k < 20; k++) {
            x.swap(0, 1);
        }
        due("undo()", x.undo(), 15);
        x.swap(0, 2);
        due("a new one behind", x.count(6), 16);
        x.swap(0, 2);
        due("and one more", x.count(6), 16);
        due("undo()", x.undo(), 15);
        due("undo()", x.undo(), 14);
        due("seated", seated(x), "102");
    }

    private static void noActs() {
        sentence(20, "ACTS (DRAWN, TAKEN, SWAPS, COURSES, DINNERS) are a row");
        NoWifeBeside x = at("Ml00CSw");
        x.keep(0);
        x.gossip(0, 1, true);
        x.hush();
        x.seed(4);
        x.many(true);
        x.luck(true);
        x.rank();
        x.nth(5, 0);
        x.wrong();
        x.good();
        x.worthOf(true);
        x.bestAt(0);
        x.few();
        x.fewAt(0);
        x.changes(0);
        x.fits(0);
        x.sat(0, 0);
        x.write(1, 'C');
        x.fault();
        x.wipe();
        due("none of these is an act", x.count(6), 0);
        due("undo()", x.undo(), STATE);
    }
}
