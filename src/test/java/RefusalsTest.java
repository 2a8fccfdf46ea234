import java.util.function.Consumer;
import java.util.function.ToIntFunction;

/**
 * What is refused changes nothing: two objects are brought to the same state, one of them refuses a call,
 * and behind that both must answer alike, whatever is asked or done. Of several refusals the first one is due.
 */
public final class RefusalsTest extends Sentences {
    private static final int MOST_UNDONE = 17;

    private static int longest = 0;
    private static Consumer<NoWifeBeside> state = null;

    public static void main(String[] args) {
        ofAnyState();
        ofFullOnes();
        ofNothingLawful();
        ofSevenPeople();
        ofNobody();
        ofSeveralTheFirst();
        due("calls of the longest watch, 512 at most", longest < 400 ? 1 : 0, 1);
        System.out.println(longest + " calls at most tell whether all is as it was");
        end(0, -1);
    }

    private static void refused(int promise, String call, int want, ToIntFunction<NoWifeBeside> it) {
        sentence(promise, "What is refused changes nothing.");
        NoWifeBeside one = new NoWifeBeside();
        NoWifeBeside other = new NoWifeBeside();
        state.accept(one);
        state.accept(other);
        due(call, it.applyAsInt(other), want);
        due(call + " once more", it.applyAsInt(other), want);
        due("all behind " + call, watch(other), watch(one));
    }

    /** All answers of one object, with acts undone, slots gone on from, draws, and the text told as a party. */
    private static String watch(NoWifeBeside x) {
        StringBuilder all = new StringBuilder();
        int[] calls = {0};
        Consumer<Long> see = answer -> {
            all.append(answer).append(' ');
            calls[0]++;
        };
        int people = x.count(1);
        for (int what = 0; what < 9; what++) {
            see.accept((long) x.count(what));
        }
        for (int k = 0; k < people; k++) {
            for (int what = 1; what < 6; what++) {
                see.accept((long) x.person(k, what));
            }
        }
        see.accept((long) x.fault());
        see.accept((long) x.many(false));
        see.accept((long) x.fits(0));
        see.accept((long) x.fits(1));
        see.accept((long) x.sat(0, 0));
        see.accept((long) x.worthOf(true));
        see.accept((long) x.changes(0));
        see.accept((long) x.changes(1));
        for (int left = 0; left < MOST_UNDONE; left++) {
            seeTable(x, people, see);
            see.accept((long) x.undo());
        }
        for (int slot = 0; slot < 2; slot++) {
            see.accept((long) x.again(slot));
            seeTable(x, people, see);
        }
        see.accept((long) x.draw());
        see.accept(x.seed(0));
        see.accept((long) x.hush());
        see.accept((long) x.party());
        see.accept((long) x.many(false));
        see.accept((long) x.person(0, 1));
        see.accept((long) x.wipe());
        longest = Math.max(longest, calls[0]);
        return all.toString();
    }

    private static void seeTable(NoWifeBeside x, int people, Consumer<Long> see) {
        for (int c = 0; c < people; c++) {
            see.accept((long) x.chair(c));
        }
        see.accept((long) x.few());
        for (int k = 1; k < people && people <= 5; k++) {
            see.accept((long) x.dined(0, k));
            see.accept((long) x.dined(k - 1, k));
        }
    }

    // ---- states

    private static void busy(NoWifeBeside x) {
        retell(x, "Mr01CCSwQ02T13W019");
        x.take(1);
        x.dinner();
        x.keep(0);
        x.swap(0, 4);
        x.dinner();
        x.course(1);
        x.draw();
        x.gossip(0, 1, true);
        x.gossip(3, 2, false);
        x.seed(99);
        x.wipe();
        x.write(8, number("Ml10CSwQ"));
        x.write(2, number("01"));
    }

    private static void ofAnyState() {
        state = RefusalsTest::busy;
        refused(2, "write(0)", OUTSIDE, x -> x.write(0, 'C'));
        refused(2, "write(9)", OUTSIDE, x -> x.write(9, 'C'));
        refused(2, "write(-1)", OUTSIDE, x -> x.write(-1, 'C'));
        refused(6, "person(5, 0)", UNKNOWN, x -> x.person(5, 0));
        refused(6, "person(0, 6)", OUTSIDE, x -> x.person(0, 6));
        refused(7, "chair(5)", UNKNOWN, x -> x.chair(5));
        refused(8, "worth(5, 0)", UNKNOWN, x -> x.worth(5, 0));
        refused(9, "dined(0, 5)", UNKNOWN, x -> x.dined(0, 5));
        refused(13, "nth(0, 5)", UNKNOWN, x -> x.nth(0, 5));
        refused(13, "nth(5040, 0)", OUTSIDE, x -> x.nth(5040, 0));
        refused(16, "take(-1)", OUTSIDE, x -> x.take(-1));
        refused(16, "take(many)", OUTSIDE, x -> x.take(x.many(false)));
        refused(17, "swap(0, 5)", UNKNOWN, x -> x.swap(0, 5));
        refused(17, "swap(-1, 0)", UNKNOWN, x -> x.swap(-1, 0));
        refused(17, "swap(4, 4)", OUTSIDE, x -> x.swap(4, 4));
        refused(18, "course(0)", OUTSIDE, x -> x.course(0));
        refused(18, "course(10)", OUTSIDE, x -> x.course(10));
        refused(23, "bestAt(5)", UNKNOWN, x -> x.bestAt(5));
        refused(25, "fewAt(5)", UNKNOWN, x -> x.fewAt(5));
        refused(26, "changes(2)", UNKNOWN, x -> x.changes(2));
        refused(26, "changes(1)", STATE, x -> x.changes(1));
        refused(27, "gossip(5, 0)", UNKNOWN, x -> x.gossip(5, 0, true));
        refused(27, "gossip(0, 0)", OUTSIDE, x -> x.gossip(0, 0, true));
        refused(29, "fits(2)", OUTSIDE, x -> x.fits(2));
        refused(30, "sat(5, 0)", UNKNOWN, x -> x.sat(5, 0));
        refused(30, "sat(0, 2)", OUTSIDE, x -> x.sat(0, 2));
        refused(32, "keep(2)", UNKNOWN, x -> x.keep(2));
        refused(32, "keep(-1)", UNKNOWN, x -> x.keep(-1));
        refused(33, "again(2)", UNKNOWN, x -> x.again(2));
        refused(33, "again(1)", STATE, x -> x.again(1));
        refused(34, "count(9)", OUTSIDE, x -> x.count(9));
        state = x -> {
            busy(x);
            x.write(1, 'Q');
        };
        refused(5, "party() of a fault", STATE, NoWifeBeside::party);
        state = x -> {
            busy(x);
            x.wipe();
        };
        refused(5, "party() of nothing", STATE, NoWifeBeside::party);
    }

    private static void ofFullOnes() {
        state = x -> {
            busy(x);
            for (int k = 0; k < 9; k++) {
                x.write(6, number("W01199"));
            }
            x.gossip(1, 2, true);
            for (int k = 0; k < 5; k++) {
                x.gossip(1, k == 1 ? 0 : k, k > 2);
            }
            x.gossip(4, 0, false);
        };
        refused(2, "write(1) of 64", FULL, x -> x.write(1, 'C'));
        refused(2, "write(8) of 64", FULL, x -> x.write(8, 'C'));
        refused(2, "write(9) of 64", OUTSIDE, x -> x.write(9, 'C'));
        refused(27, "a ninth gossip", FULL, x -> x.gossip(0, 3, false));
        state = x -> {
            busy(x);
            x.again(0);
            for (int k = 0; k < 98; k++) {
                x.dinner();
            }
            x.swap(0, 1);
            x.swap(0, 1);
        };
        refused(19, "a hundredth dinner", FULL, NoWifeBeside::dinner);
    }

    private static void ofNothingLawful() {
        state = x -> {
            retell(x, "Mr11CCSw");
            x.seed(-5);
            x.keep(1);
        };
        refused(15, "draw()", STATE, NoWifeBeside::draw);
        refused(16, "take(0)", OUTSIDE, x -> x.take(0));
        refused(13, "nth(0, 0)", OUTSIDE, x -> x.nth(0, 0));
        refused(20, "undo()", STATE, NoWifeBeside::undo);
        refused(33, "again(0)", STATE, x -> x.again(0));
    }

    private static void ofSevenPeople() {
        state = x -> {
            retell(x, "Mr01CCCSw");
            x.dinner();
            x.keep(0);
            x.swap(0, 6);
        };
        refused(26, "changes(0)", STATE, x -> x.changes(0));
        refused(26, "changes(1)", STATE, x -> x.changes(1));
        refused(17, "swap(7, 0)", UNKNOWN, x -> x.swap(7, 0));
        refused(27, "gossip(7, 0)", UNKNOWN, x -> x.gossip(7, 0, true));
        refused(27, "gossip(6, 6)", OUTSIDE, x -> x.gossip(6, 6, true));
        refused(16, "take(5040)", OUTSIDE, x -> x.take(5040));
    }

    private static void ofNobody() {
        state = x -> {
        };
        refused(5, "party()", STATE, NoWifeBeside::party);
        refused(16, "take(1)", OUTSIDE, x -> x.take(1));
        refused(17, "swap(0, 0)", UNKNOWN, x -> x.swap(0, 0));
        refused(18, "course(0)", OUTSIDE, x -> x.course(0));
        refused(20, "undo()", STATE, NoWifeBeside::undo);
        refused(27, "gossip(0, 0)", UNKNOWN, x -> x.gossip(0, 0, true));
        refused(30, "sat(0, 0)", UNKNOWN, x -> x.sat(0, 0));
        refused(33, "again(0)", STATE, x -> x.again(0));
    }

    private static void ofSeveralTheFirst() {
        String words = "REFUSALS, of several the first that a call names";
        NoWifeBeside x = at("Ml00CSw");
        sentence(6, words);
        due("person(3, 6)", x.person(3, 6), UNKNOWN);
        sentence(13, words);
        due("nth(6, 3)", x.nth(6, 3), UNKNOWN);
        sentence(17, words);
        due("swap(3, 3)", x.swap(3, 3), UNKNOWN);
        sentence(26, words);
        due("changes(2), nothing is kept", x.changes(2), UNKNOWN);
        sentence(30, words);
        due("sat(3, 2)", x.sat(3, 2), UNKNOWN);
        for (int k = 0; k < 8; k++) {
            x.gossip(0, 1, true);
        }
        sentence(27, words);
        due("gossip(3, 3) of 8", x.gossip(3, 3, true), UNKNOWN);
        due("gossip(1, 3) of 8", x.gossip(1, 3, true), UNKNOWN);
        due("gossip(1, 1) of 8", x.gossip(1, 1, true), OUTSIDE);
        due("gossip(1, 0) of 8", x.gossip(1, 0, true), FULL);
        sentence(2, words);
        x = new NoWifeBeside();
        for (int k = 0; k < 8; k++) {
            x.write(8, 0);
        }
        due("write(9) of 64", x.write(9, 0), OUTSIDE);
        due("write(0) of 64", x.write(0, 0), OUTSIDE);
        due("write(1) of 64", x.write(1, 0), FULL);
    }
}
