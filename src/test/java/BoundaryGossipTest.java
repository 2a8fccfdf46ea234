/** Promises 27 to 31, sentence by sentence: gossip, what fits it, and the seed. */
public final class BoundaryGossipTest extends Sentences {
    public static void main(String[] args) {
        gossipRefused();
        fullGossip();
        hush();
        fits();
        fitsAroundTheTable();
        goneOnes();
        fitsRefused();
        sat();
        satRefused();
        seeds();
        end(27, 31);
    }

    // ---- promises 27 and 28

    private static void gossipRefused() {
        sentence(27, "UNKNOWN: both; OUTSIDE: both are one; FULL: 8.");
        for (int people : new int[] {0, 1, 2, 6, 7}) {
            NoWifeBeside x = at(singles("Ml00", "wmwmwmw".substring(0, people)));
            refusesAll(x, people);
            due("how much there is", x.count(7), 0);
            for (int k = 0; k < 8 && people > 1; k++) {
                x.gossip(0, 1, true);
            }
            refusesAll(x, people);
            due("how much there is", x.count(7), people > 1 ? 8 : 0);
        }
    }

    private static void refusesAll(NoWifeBeside x, int people) {
        for (int no : noneOf(people)) {
            due("gossip(" + no + ", 0)", x.gossip(no, 0, true), UNKNOWN);
            due("gossip(0, " + no + ")", x.gossip(0, no, false), UNKNOWN);
            due("gossip(" + no + ", itself)", x.gossip(no, no, true), UNKNOWN);
        }
        for (int k = 0; k < people; k++) {
            due("gossip(" + k + ", itself)", x.gossip(k, k, k % 2 == 0), OUTSIDE);
        }
    }

    private static void fullGossip() {
        sentence(27, "GOSSIP: i sat beside j, or not: 8 of these at most.");
        NoWifeBeside x = at("Ml00CCCSw");
        for (int k = 1; k <= 8; k++) {
            due("gossip number " + k, x.gossip(6, k % 6, k % 2 == 0), k);
            due("count(7)", x.count(7), k);
        }
        due("a ninth", x.gossip(6, 5, true), FULL);
        due("a ninth that was told", x.gossip(6, 1, false), FULL);
        due("count(7)", x.count(7), 8);
        due("the first refusal", x.gossip(6, 6, true), OUTSIDE);
        due("the first refusal", x.gossip(7, 7, true), UNKNOWN);
        x = at("Ml00SwSmSm");
        for (int k = 0; k < 7; k++) {
            x.gossip(0, 1, true);
        }
        x.gossip(0, 2, false);
        due("the eighth counts", x.fits(0), 2);
        due("one more", x.gossip(1, 2, false), FULL);
        due("what is refused does not count", x.fits(0), 2);
    }

    private static void hush() {
        sentence(28, "There is no GOSSIP: how much there was.");
        due("nothing", new NoWifeBeside().hush(), 0);
        for (int much = 0; much <= 8; much++) {
            NoWifeBeside x = at("Ml00SwSmSm");
            for (int k = 0; k < much; k++) {
                x.gossip(0, 1, false);
            }
            due("fits(0)", x.fits(0), much == 0 ? 6 : 2);
            due("hush()", x.hush(), much);
            due("count(7)", x.count(7), 0);
            due("fits(0) then", x.fits(0), 6);
            due("hush() again", x.hush(), 0);
            due("there is room", x.gossip(2, 1, false), 1);
            due("and only this counts", x.fits(0), 2);
            due("sat(0, 0)", x.sat(0, 0), 2);
        }
    }

    // ---- promise 29

    private static void fitsOf(NoWifeBeside x, int none, int one) {
        due("fits(0)", x.fits(0), none);
        due("fits(1)", x.fits(1), one);
    }

    private static void fits() {
        sentence(29, "FITS by l (0, 1): how many LAWFUL SEATINGS fit all GOSSIP but l or fewer of it");
        fitsOf(new NoWifeBeside(), 1, 1);
        NoWifeBeside x = at("Ml00SwSmSm");
        fitsOf(x, 6, 6);
        x.gossip(1, 0, true);
        fitsOf(x, 4, 6);
        x.gossip(0, 2, false);
        fitsOf(x, 2, 4);
        x.gossip(2, 1, false);
        fitsOf(x, 0, 4);
        x.gossip(0, 1, true);
        fitsOf(x, 0, 4);
        x.gossip(0, 1, false);
        fitsOf(x, 0, 0);
        x = at("Ml00SwSmSm");
        x.gossip(0, 1, true);
        x.gossip(0, 1, false);
        fitsOf(x, 0, 6);
        x = at("Ml00SwSmSmQ01");
        fitsOf(x, 2, 2);
        x.gossip(0, 1, true);
        fitsOf(x, 0, 2);
        x.gossip(1, 0, true);
        fitsOf(x, 0, 0);
        x = at("Mr11C");
        x.gossip(0, 1, true);
        fitsOf(x, 0, 0);
        x = at("Ml00SwSmSm");
        x.gossip(0, 1, false);
        seat(x, "210");
        x.dinner();
        due("wherever they sit now", x.fits(0), 2);
    }

    private static void fitsAroundTheTable() {
        sentence(29, "at a ROUND table of three or more the first one and the last one, too");
        NoWifeBeside x = at("Mr00SwSmSm");
        x.gossip(0, 2, true);
        fitsOf(x, 6, 6);
        x.gossip(0, 1, false);
        fitsOf(x, 0, 6);
        x = at("Mr00SwSm");
        x.gossip(0, 1, true);
        fitsOf(x, 2, 2);
        x = at("Mr00SwSmSmSw");
        x.gossip(3, 0, false);
        fitsOf(x, 8, 24);
        x = at("Ml00SwSmSmSw");
        x.gossip(3, 0, false);
        fitsOf(x, 12, 24);
    }

    private static void goneOnes() {
        sentence(29, "(GOSSIP of one that is not there any more is not looked at.)");
        NoWifeBeside x = at("Ml00CCCSw");
        x.gossip(6, 0, false);
        x.gossip(1, 6, true);
        x.gossip(5, 6, true);
        x.gossip(0, 2, true);
        retell(x, "Ml00SwSmSm");
        due("it stays", x.count(7), 4);
        fitsOf(x, 4, 6);
        sentence(30, "CHAIRS on which a PERSON may have sat, as bits.");
        due("sat(1, 0)", x.sat(1, 0), 5);
        due("sat(1, 1)", x.sat(1, 1), 7);
        sentence(29, "(GOSSIP of one that is not there any more is not looked at.)");
        retell(x, "Ml00SwSm");
        fitsOf(x, 2, 2);
        retell(x, "Ml00");
        fitsOf(x, 1, 1);
        due("it stays", x.count(7), 4);
        due("how much there is", x.gossip(0, 1, true), UNKNOWN);
        retell(x, "Ml00SwSm");
        due("how much there is", x.gossip(0, 1, false), 5);
        fitsOf(x, 0, 2);
        retell(x, "Ml00CCCSm");
        due("they are there again: 56, 61 and 02, but 01 and 60 not", x.fits(0), 84);
        due("hush()", x.hush(), 5);
    }

    private static void fitsRefused() {
        sentence(29, "FITS. OUTSIDE: l.");
        for (String party : new String[] {"Ml00", "Mr11C", "Ml00CSw", "Mr00CCCSw"}) {
            NoWifeBeside x = at(party);
            for (int l : new int[] {-1, 2, 3, 8, 256, LEAST, LEAST + 1, MOST}) {
                due("fits(" + l + ") of " + party, x.fits(l), OUTSIDE);
            }
        }
    }

    // ---- promise 30

    private static void sat() {
        sentence(30, "CHAIRS on which a PERSON may have sat by them (bits)");
        NoWifeBeside x = at("Ml00SwSmSm");
        for (int k = 0; k < 3; k++) {
            due("sat(" + k + ", 0)", x.sat(k, 0), 7);
        }
        x.gossip(0, 1, false);
        int[] none = {5, 5, 2};
        for (int k = 0; k < 3; k++) {
            due("sat(" + k + ", 0)", x.sat(k, 0), none[k]);
            due("sat(" + k + ", 1)", x.sat(k, 1), 7);
        }
        x.gossip(0, 2, false);
        int[] one = {5, 7, 7};
        for (int k = 0; k < 3; k++) {
            due("sat(" + k + ", 0)", x.sat(k, 0), 0);
            due("sat(" + k + ", 1)", x.sat(k, 1), one[k]);
        }
        due("where nothing is lawful", at("Mr11C").sat(0, 1), 0);
        due("one", at("Mr11Sw").sat(0, 0), 1);
        x = at("Mr00CCCSw");
        due("seven", x.sat(6, 0), 127);
        due("seven", x.sat(0, 1), 127);
        x = at("Ml10CCCSw");
        due("women of seven", x.sat(6, 0), 85);
        due("men of seven", x.sat(1, 0), 42);
        due("nobody moved", seated(x), "0123456");
    }

    private static void satRefused() {
        sentence(30, "UNKNOWN; OUTSIDE: l.");
        for (String party : new String[] {"Ml00", "Mr11C", "Ml00CSw", "Mr00CCCSw"}) {
            NoWifeBeside x = at(party);
            int people = x.count(1);
            for (int l : new int[] {-1, 2, 3, LEAST, MOST}) {
                due("sat(" + people + ", " + l + ") of " + party, x.sat(people, l), UNKNOWN);
                due("sat(-1, " + l + ") of " + party, x.sat(-1, l), UNKNOWN);
                for (int k = 0; k < people; k++) {
                    due("sat(" + k + ", " + l + ") of " + party, x.sat(k, l), OUTSIDE);
                }
            }
            for (int no : noneOf(people)) {
                due("sat(" + no + ", 0) of " + party, x.sat(no, 0), UNKNOWN);
                due("sat(" + no + ", 1) of " + party, x.sat(no, 1), UNKNOWN);
            }
        }
    }

    // ---- promise 31

    private static void seeds() {
        sentence(31, "THE SEED is v: what it was.");
        long[] seeds = {0, 1, -1, Long.MIN_VALUE, Long.MAX_VALUE, 1L << 32, -9, -2, 1L << 63 | 1};
        NoWifeBeside x = new NoWifeBeside();
        long was = 0;
        for (long v : seeds) {
            due("seed(" + v + ")", x.seed(v), was);
            was = v;
        }
        due("it is no act", x.count(6), 0);
        sentence(31, "(64 bits, wrapping)");
        x.seed(-1);
        x.draw();
        due("the seed drawn from -1", x.seed(Long.MAX_VALUE), -4921441182957829598L);
        x.draw();
        due("the seed drawn from the greatest", x.seed(Long.MIN_VALUE), 4301930853896946210L);
        x.draw();
        due("the seed drawn from the least", x.seed(0), -7780676995965812401L);
    }
}
