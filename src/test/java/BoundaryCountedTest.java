import java.util.ArrayList;
import java.util.List;

/** Promises 10 to 14, sentence by sentence: what is lawful, how many are, which one, and what is wrong first. */
public final class BoundaryCountedTest extends Sentences {
    private static final int[] FACTORIALS = {1, 1, 2, 6, 24, 120, 720, 5040};

    public static void main(String[] args) {
        everythingIsLawful();
        eachLaw();
        aroundTheTable();
        turnedOnesAlike();
        lucks();
        ranks();
        inOrder();
        ranksThatThereAreNot();
        wrongs();
        wrongsAroundTheTable();
        end(10, 14);
    }

    private static void manyOf(String text, int want) {
        due("many(false) of " + text, at(text).many(false), want);
    }

    // ---- promise 10

    private static void everythingIsLawful() {
        sentence(10, "MANY: how many are LAWFUL");
        for (int people = 0; people <= 7; people++) {
            String sexes = "wwmmwmw".substring(0, people);
            manyOf(singles("Ml00", sexes), FACTORIALS[people]);
            manyOf(singles("Mr00", sexes), FACTORIALS[people]);
        }
        manyOf("Mr00CCC", 720);
        NoWifeBeside x = at("Ml00CSwQ01");
        due("many(false)", x.many(false), 2);
        x.take(1);
        x.dinner();
        due("many(false) wherever they sit", x.many(false), 2);
        due("no act", x.count(6), 2);
        retell(x, "Ml00CSw");
        due("many(false) of the new party", x.many(false), 6);
    }

    private static void eachLaw() {
        sentence(10, "A SEATING is LAWFUL, if no NEIGHBOURS have a QUARREL");
        manyOf("Ml00SwSmQ01", 0);
        manyOf("Ml00SwSmSmQ01", 2);
        manyOf("Ml00SwSmSmQ20", 2);
        manyOf("Ml00SwSmSmQ01Q02", 0);
        manyOf("Ml00SwSmSmSwQ01", 12);
        sentence(10, "are of one couple (only if it is APART)");
        manyOf("Ml00C", 2);
        manyOf("Ml01C", 0);
        manyOf("Ml01SwSm", 2);
        manyOf("Ml01CSw", 2);
        manyOf("Ml00CSw", 6);
        manyOf("Ml01CC", 8);
        sentence(10, "or are both women, or both men (only if it is BY TURNS)");
        manyOf("Ml10SwSw", 0);
        manyOf("Ml10SmSm", 0);
        manyOf("Ml10SwSm", 2);
        manyOf("Ml00SwSw", 2);
        manyOf("Ml10SwSmSw", 2);
        manyOf("Ml10SmSwSm", 2);
        manyOf("Ml10SwSwSm", 2);
        manyOf("Ml10SmSmSm", 0);
        manyOf("Ml10SwSmSmSw", 8);
        manyOf("Ml10CCCSw", 144);
        sentence(10, "and all that must sit TOGETHER are NEIGHBOURS.");
        manyOf("Ml00SwSmT01", 2);
        manyOf("Ml00SwSmSmT01", 4);
        manyOf("Ml00SwSmSmT01T12", 2);
        manyOf("Ml00SwSmSmT01T12T02", 0);
        manyOf("Ml00SwSmSmSwT01T02T03", 0);
        manyOf("Ml01CSwT01", 0);
        manyOf("Ml10SwSwSmT01", 0);
        manyOf("Ml00SwSmSmQ01T02", 2);
        sentence(10, "(by the law above)");
        manyOf("Ml01CSwQ12", 0);
        manyOf("Ml01CSwQ02", 0);
        manyOf("Ml01CSmSwQ12", 4);
        manyOf("Ml10SwSmSwQ01", 0);
        manyOf("Ml10SwSmSwSmQ01", 2);
        manyOf("Ml11CC", 0);
        manyOf("Ml11CCC", 12);
        manyOf("Ml11CCCQ03", 2);
        manyOf("Ml11CCCT03", 10);
        manyOf("Mr11CCCQ03", 0);
        manyOf("Mr11CCCT03", 12);
        manyOf("Mr01CCCQ03", 96);
    }

    private static void aroundTheTable() {
        sentence(10, "at a ROUND table of three or more the first one and the last one, too");
        manyOf("Mr00SwSmQ01", 0);
        manyOf("Mr00SwSmT01", 2);
        manyOf("Mr00SwSmSmQ01", 0);
        manyOf("Ml00SwSmSmQ01", 2);
        manyOf("Mr00SwSmSmT01T12T02", 6);
        manyOf("Mr00SwSmSmSwQ01", 8);
        manyOf("Mr00SwSmSmSwT01", 16);
        manyOf("Ml00SwSmSmSwT01", 12);
        manyOf("Mr00SwSmSmSwT01T12T23T30", 8);
        manyOf("Ml00SwSmSmSwT01T12T23T30", 0);
        manyOf("Mr10SwSmSw", 0);
        manyOf("Ml10SwSmSw", 2);
        manyOf("Mr10SwSmSwSm", 8);
        manyOf("Mr01CSw", 0);
        manyOf("Ml01CSw", 2);
        manyOf("Mr11Sw", 1);
        manyOf("Mr10C", 2);
        manyOf("Mr11C", 0);
        manyOf("Mr11CCCSw", 0);
        manyOf("Mr11CCC", 12);
        manyOf("Mr00CCCSwT01T12T23T34T45T56T60", 14);
    }

    private static void turnedOnesAlike() {
        sentence(10, "turned ones alike (at a ROUND table, of nobody 1): by how many CHAIRS there are.");
        due("nobody", at("Mr00").many(true), 1);
        due("nobody, by turns and apart", at("Mr11").many(true), 1);
        for (int people = 1; people <= 7; people++) {
            String sexes = "wwmmwmw".substring(0, people);
            due(people + " people", at(singles("Mr00", sexes)).many(true), FACTORIALS[people - 1]);
        }
        due("none", at("Mr01C").many(true), 0);
        due("none of seven", at("Mr10CCCSw").many(true), 0);
        due("three couples", at("Mr11CCC").many(true), 2);
        due("a ring of seven", at("Mr00CCCSwT01T12T23T34T45T56T60").many(true), 2);
        sentence(10, "at a LONG table it is as if not");
        due("nobody", at("Ml00").many(true), 1);
        for (int people = 1; people <= 7; people++) {
            String sexes = "wwmmwmw".substring(0, people);
            due(people + " people", at(singles("Ml00", sexes)).many(true), FACTORIALS[people]);
        }
        due("many(true)", at("Ml00CSwQ01").many(true), 2);
    }

    // ---- promise 11

    private static void luckOf(String text, int above, int below) {
        NoWifeBeside x = at(text);
        due("luck(true) of " + text, x.luck(true), above);
        due("luck(false) of " + text, x.luck(false), below);
        x = at(text);
        due("luck(false), asked first, of " + text, x.luck(false), below);
    }

    private static void lucks() {
        sentence(11, "LUCK: MANY by all SEATINGS, a FRACTION.");
        luckOf("Ml00SwSmSmQ01", 1, 3);
        luckOf("Ml00SwSmSmT01", 2, 3);
        luckOf("Mr00SwSmSmSwT01", 2, 3);
        luckOf("Mr00CCCSwT01T12T23T34T45T56T60", 1, 360);
        luckOf("Ml10CCCSw", 1, 35);
        luckOf("Mr01CC", 1, 3);
        luckOf("Ml10SwSmSwSmSw", 1, 10);
        luckOf("Mr11CCC", 1, 60);
        sentence(11, "in least terms");
        luckOf("Mr01CCC", 4, 15);
        luckOf("Ml00", 1, 1);
        luckOf("Mr00", 1, 1);
        for (int people = 1; people <= 7; people++) {
            luckOf(singles("Mr00", "wwmmwmw".substring(0, people)), 1, 1);
        }
        sentence(11, "FRACTIONS are told above (upper = true), below (1 and more)");
        luckOf("Mr11C", 0, 1);
        luckOf("Ml10SwSw", 0, 1);
        luckOf("Mr10CCCSw", 0, 1);
        sentence(11, "refusals of them are told likewise");
        due("a luck is never refused, above", new NoWifeBeside().luck(true), 1);
        due("nor below", new NoWifeBeside().luck(false), 1);
    }

    // ---- promises 12 and 13

    private static void ranks() {
        sentence(12, "RANK: how many of them are ahead of a SEATING.");
        NoWifeBeside x = at("Ml00SwSmSm");
        String[] seatings = {"012", "021", "102", "120", "201", "210"};
        for (int k = 0; k < 6; k++) {
            seat(x, seatings[k]);
            due("rank() of " + seatings[k], x.rank(), k);
        }
        sentence(12, "NONE: it is not LAWFUL.");
        x = at("Ml00SwSmSmQ01");
        int[] want = {NONE, 0, NONE, 1, NONE, NONE};
        for (int k = 0; k < 6; k++) {
            seat(x, seatings[k]);
            due("rank() of " + seatings[k], x.rank(), want[k]);
        }
        x = at("Mr11C");
        due("rank() where nothing is lawful", x.rank(), NONE);
        x.swap(0, 1);
        due("rank() where nothing is lawful", x.rank(), NONE);
        due("rank() of nobody", at("Mr11").rank(), 0);
        due("rank() of one", at("Mr11Sm").rank(), 0);
        x = at("Mr00CCCSw");
        due("rank() of the first", x.rank(), 0);
        seat(x, "6543210");
        due("rank() of the last", x.rank(), 5039);
        seat(x, "6543201");
        due("rank() of the last but one", x.rank(), 5038);
    }

    private static String nthSeating(NoWifeBeside x, int rank, int people) {
        StringBuilder got = new StringBuilder();
        for (int c = 0; c < people; c++) {
            got.append(x.nth(rank, c));
        }
        return got.toString();
    }

    private static void inOrder() {
        sentence(13, "LAWFUL SEATINGS are in order by who sits on CHAIR 0, then CHAIR 1, .. (by number).");
        NoWifeBeside x = at("Ml00SwSmSm");
        String[] all = {"012", "021", "102", "120", "201", "210"};
        for (int k = 0; k < 6; k++) {
            due("nth(" + k + ")", nthSeating(x, k, 3), all[k]);
        }
        x = at("Ml10SwSwSmSm");
        String[] turns = {"0213", "0312", "1203", "1302", "2031", "2130", "3021", "3120"};
        for (int k = 0; k < 8; k++) {
            due("nth(" + k + ") by turns", nthSeating(x, k, 4), turns[k]);
        }
        due("nobody moved", seated(x), "0123");
        x = at("Mr11CCC");
        List<String> seen = new ArrayList<>();
        for (int k = 0; k < 12; k++) {
            seen.add(nthSeating(x, k, 6));
        }
        due("the first", seen.get(0), "034125");
        for (int k = 1; k < 12; k++) {
            due("in order", seen.get(k - 1).compareTo(seen.get(k)) < 0 ? 1 : 0, 1);
        }
        x = at("Mr00CCCSw");
        due("the first of 5040", nthSeating(x, 0, 7), "0123456");
        due("the last of 5040", nthSeating(x, 5039, 7), "6543210");
    }

    private static void ranksThatThereAreNot() {
        sentence(13, "UNKNOWN: chair; OUTSIDE: there is no such RANK.");
        String[] parties = {"Ml00SwSmSmQ01", "Ml00SwSmSm", "Mr11CCC", "Mr00CCCSw", "Mr11C", "Ml00Sw", "Mr11", "Ml00"};
        for (String party : parties) {
            NoWifeBeside x = at(party);
            int many = x.many(false);
            int people = x.count(1);
            for (int rank : new int[] {many, many + 1, 5040, 5041, -1, LEAST, MOST}) {
                for (int c = 0; c < people; c++) {
                    due("nth(" + rank + ", " + c + ") of " + party, x.nth(rank, c), OUTSIDE);
                }
                due("nth(" + rank + ", " + people + ") of " + party, x.nth(rank, people), UNKNOWN);
                due("nth(" + rank + ", -1) of " + party, x.nth(rank, -1), UNKNOWN);
            }
            for (int no : noneOf(people)) {
                due("nth(0, " + no + ") of " + party, x.nth(0, no), UNKNOWN);
                due("nth(-1, " + no + ") of " + party, x.nth(-1, no), UNKNOWN);
            }
        }
    }

    // ---- promise 14

    private static void wrongOf(String text, String seating, int want) {
        NoWifeBeside x = at(text);
        seat(x, seating);
        due("wrong() of " + text + " as " + seating, x.wrong(), want);
        due("it is lawful if nothing is wrong", x.count(8), want == NONE ? 1 : 0);
    }

    private static void wrongs() {
        sentence(14, "WRONG: the least CHAIR whose PERSON has a NEIGHBOUR it may not have (by the law above)");
        wrongOf("Ml00SwSmSwSmQ01", "0123", 0);
        wrongOf("Ml00SwSmSwSmQ01", "3012", 1);
        wrongOf("Ml00SwSmSwSmQ01", "2301", 2);
        wrongOf("Ml00SwSmSwSmQ01", "3210", 2);
        wrongOf("Ml00SwSmSwSmQ01", "0213", NONE);
        wrongOf("Ml01CSwSm", "2301", 2);
        wrongOf("Ml00CSwSm", "2301", NONE);
        wrongOf("Ml01CSwSm", "0231", NONE);
        wrongOf("Ml10SwSwSmSm", "2031", NONE);
        wrongOf("Ml10SwSwSmSm", "2013", 1);
        wrongOf("Ml10SwSwSmSm", "0231", 1);
        wrongOf("Ml00SwSwSmSm", "0123", NONE);
        sentence(14, "or lacks one with whom it must sit TOGETHER; NONE.");
        wrongOf("Ml00SwSmSwSmT03", "0123", 0);
        wrongOf("Ml00SwSmSwSmT03", "1023", 1);
        wrongOf("Ml00SwSmSwSmT03", "1032", NONE);
        wrongOf("Ml00SwSmSwSmT13", "0123", 1);
        wrongOf("Ml00SwSmSwSmT12", "0123", NONE);
        wrongOf("Ml00SwSmSwSmT13Q01", "0123", 0);
        wrongOf("Ml00SwSmSwSmT02Q23", "0123", 0);
        due("nobody", new NoWifeBeside().wrong(), NONE);
        due("one", at("Mr11Sw").wrong(), NONE);
        due("wrong() is no act", at("Mr11C").count(6), 0);
    }

    private static void wrongsAroundTheTable() {
        sentence(14, "at a ROUND table of three or more the first one and the last one, too");
        wrongOf("Mr00SwSmSwQ02", "012", 0);
        wrongOf("Ml00SwSmSwQ02", "012", NONE);
        wrongOf("Mr00SwSmSwSmT03", "0123", NONE);
        wrongOf("Ml00SwSmSwSmT03", "0123", 0);
        wrongOf("Mr00SwSmSwSmT02", "0123", 0);
        wrongOf("Mr00SwSmSwSmT13", "0123", 1);
        wrongOf("Mr10SwSmSw", "012", 0);
        wrongOf("Mr01SwSmC", "2013", 0);
        wrongOf("Ml01SwSmC", "2013", NONE);
        wrongOf("Mr00CCCSwQ06", "0123456", 0);
        wrongOf("Ml00CCCSwQ06", "0123456", NONE);
        wrongOf("Ml00CCCSwQ56", "0123456", 5);
        wrongOf("Mr00SwSwQ01", "01", 0);
        wrongOf("Mr00SwSwT01", "01", NONE);
    }
}
