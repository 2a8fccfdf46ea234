/** Promises 21 to 26, sentence by sentence: good courses, the best seating, the one of fewest dinners, and changes. */
public final class BoundaryBestTest extends Sentences {
    public static void main(String[] args) {
        good();
        goodIsAsCoursesAre();
        worthOfSeatings();
        best();
        nothingIsBest();
        few();
        nothingIsFew();
        changesRefused();
        changesWhereAllIsLawful();
        changesByLaw();
        end(21, 26);
    }

    // ---- promise 21

    private static void good() {
        sentence(21, "GOOD: how many of COURSES of 1, 2, .. (as many as there are men, less one)");
        String men = "mmmmmmm";
        due("nobody", new NoWifeBeside().good(), 0);
        for (int k = 1; k <= 7; k++) {
            due(k + " men", at(singles("Mr00", men.substring(0, k))).good(), k - 1);
            due(k + " women", at(singles("Mr00", men.substring(0, k).replace('m', 'w'))).good(), 0);
        }
        due("a man and six women", at(singles("Ml00", "wwwmwww")).good(), 0);
        due("six men and a woman", at(singles("Ml00", "mmmwmmm")).good(), 5);
        sentence(21, "lead from here to a LAWFUL SEATING");
        NoWifeBeside x = at("Mr11CCC");
        due("as told", x.good(), 1);
        seat(x, "052143");
        due("from a lawful one, which itself is not counted", x.good(), 0);
        due("nothing is lawful", at("Mr11CC").good(), 0);
        due("not by turns wherever men sit", at("Ml10SmSmSw").good(), 0);
        due("two men change, and still quarrel", at("Ml00SmSmQ01").good(), 0);
        due("two men change, away from her", at("Ml00SmSwSwSmQ01").good(), 1);
        due("two men change, to her", at("Ml00SmSwSwSmQ13").good(), 0);
    }

    private static void goodIsAsCoursesAre() {
        sentence(21, "GOOD.");
        String[] parties = {"Mr11CCC", "Mr01CCC", "Ml01CCC", "Ml00SmSmSmSmSwQ01", "Mr00SmSwSmSmSwSmQ01T23",
            "Ml01CCCSmT06"};
        for (String party : parties) {
            NoWifeBeside x = at(party);
            for (int swap = 0; swap < 6; swap++) {
                String sat = seated(x);
                int acts = x.count(6);
                int good = x.good();
                due("nobody moved", seated(x), sat);
                due("it is no act", x.count(6), acts);
                int lawful = 0;
                for (int m = 1; m < x.count(1) - x.count(2); m++) {
                    lawful += x.course(m);
                    x.undo();
                }
                due("good() of " + party + " as " + sat, good, lawful);
                x.swap(swap % 5, 3 - swap % 3);
            }
        }
    }

    // ---- promises 22 and 23

    private static void worthOfSeatings() {
        sentence(22, "WORTH of a SEATING: what it is worth to each to sit beside its NEIGHBOURS, together.");
        due("nobody", new NoWifeBeside().worthOf(false), 0);
        due("one", at("Mr00Sw").worthOf(false), 0);
        due("two, round, once", at("Mr00CW015W103").worthOf(false), 8);
        due("two, long", at("Ml00CW015W103").worthOf(false), 8);
        due("three, round", at("Mr00CSwW015W103W029W207").worthOf(false), 24);
        due("three, long", at("Ml00CSwW015W103W029W207").worthOf(false), 8);
        due("seven, round", at("Mr00CCCSwW069W605W011").worthOf(false), 15);
        due("seven, long", at("Ml00CCCSwW069W605W011").worthOf(false), 1);
        NoWifeBeside x = at("Ml00CSwW015W103W029W207");
        seat(x, "102");
        due("as 102", x.worthOf(false), 24);
        seat(x, "120");
        due("as 120", x.worthOf(false), 16);
        sentence(22, "WORTH of THE SEATING (best = false)");
        x = at("Mr00CSwQ01W014");
        due("of an unlawful one, where nothing is lawful", x.worthOf(false), 4);
        due("of nothing told", at("Ml00CCC").worthOf(false), 0);
    }

    private static void bestOf(String text, int worth, String seating) {
        NoWifeBeside x = at(text);
        due("worthOf(true) of " + text, x.worthOf(true), worth);
        due("best of " + text, bestSeating(x), seating);
        due("first asked who sits there", bestSeating(at(text)), seating);
        due("nobody moved", seated(x), "0123456".substring(0, x.count(1)));
        due("it is no act", x.count(6), 0);
    }

    private static void best() {
        sentence(23, "BEST: the first LAWFUL SEATING of most WORTH.");
        bestOf("Ml00", 0, "");
        bestOf("Mr11Sw", 0, "0");
        bestOf("Mr00C", 0, "01");
        bestOf("Ml00CSw", 0, "012");
        bestOf("Ml00CSwQ01", 0, "021");
        bestOf("Ml00CSwW021", 1, "021");
        bestOf("Ml00CSwW201", 1, "021");
        bestOf("Ml00CSwW012W023", 5, "102");
        bestOf("Ml00CSwW019W021Q01", 1, "021");
        bestOf("Mr00CSwW019W021", 10, "012");
        bestOf("Mr00CCW029", 9, "0132");
        bestOf("Ml10SwSwSmSmW039W305W131", 15, "0312");
        bestOf("Ml00CCCSwW659", 9, "0123456");
        bestOf("Ml00CCCSwW609", 9, "0612345");
        bestOf("Mr00CCCSwW609", 9, "0123456");
        NoWifeBeside x = at("Ml00CSwW012W023");
        seat(x, "210");
        x.dinner();
        due("wherever they sit", bestSeating(x), "102");
        due("and whoever dined", x.worthOf(true), 5);
    }

    private static void nothingIsBest() {
        sentence(22, "NONE: nothing is LAWFUL.");
        for (String party : new String[] {"Mr11C", "Ml10SwSw", "Mr00CSwQ01W014", "Mr11CCCSwW019"}) {
            NoWifeBeside x = at(party);
            sentence(22, "NONE: nothing is LAWFUL.");
            due("worthOf(true) of " + party, x.worthOf(true), NONE);
            sentence(23, "Who sits on a CHAIR by BEST; NONE. UNKNOWN.");
            for (int c = 0; c < x.count(1); c++) {
                due("bestAt(" + c + ") of " + party, x.bestAt(c), NONE);
            }
            for (int no : noneOf(x.count(1))) {
                due("bestAt(" + no + ") of " + party, x.bestAt(no), UNKNOWN);
            }
        }
        for (int people = 0; people <= 7; people++) {
            NoWifeBeside x = at(singles("Ml00", "wwmmwwm".substring(0, people)));
            for (int no : noneOf(people)) {
                due("bestAt(" + no + ") of " + people, x.bestAt(no), UNKNOWN);
            }
        }
    }

    // ---- promises 24 and 25

    private static void fewOf(NoWifeBeside x, int often, String seating) {
        int acts = x.count(6);
        due("few()", x.few(), often);
        due("few", fewSeating(x), seating);
        due("it is no act", x.count(6), acts);
    }

    private static void few() {
        sentence(24, "FEW: the first LAWFUL SEATING in which fewest NEIGHBOURS have DINED together "
            + "(each two as often as they did).");
        fewOf(new NoWifeBeside(), 0, "");
        fewOf(at("Mr11Sm"), 0, "0");
        fewOf(at("Ml00CSwQ01"), 0, "021");
        due("first asked who sits there", fewSeating(at("Ml00CSwQ01")), "021");
        NoWifeBeside x = at("Ml00CSw");
        fewOf(x, 0, "012");
        x.dinner();
        fewOf(x, 1, "021");
        seat(x, "102");
        for (int k = 0; k < 4; k++) {
            x.dinner();
        }
        due("dined", dinedTogether(x), "5 4 1");
        fewOf(x, 5, "021");
        x.undo();
        x.undo();
        x.undo();
        due("dined", dinedTogether(x), "2 1 1");
        fewOf(x, 2, "021");
        seat(x, "120");
        fewOf(x, 2, "021");
        x = at("Ml00CSwQ02");
        x.dinner();
        x.dinner();
        fewOf(x, 4, "012");
        sentence(24, "how often its NEIGHBOURS DINED together, in all");
        x = at("Mr00C");
        x.dinner();
        fewOf(x, 1, "01");
        x = at("Mr00CSw");
        x.dinner();
        fewOf(x, 3, "012");
        x = at("Mr00CC");
        x.dinner();
        due("dined", dinedTogether(x), "1 0 1 1 0 1");
        fewOf(x, 2, "0132");
        x = at("Ml00CC");
        x.dinner();
        fewOf(x, 0, "1302");
        x = at("Mr00CCCSw");
        x.dinner();
        fewOf(x, 0, "0241635");
    }

    private static void nothingIsFew() {
        for (String party : new String[] {"Mr11C", "Ml10SwSw", "Mr00CSwQ01", "Mr11CCCSw"}) {
            NoWifeBeside x = at(party);
            x.dinner();
            sentence(24, "in all; NONE.");
            due("few() of " + party, x.few(), NONE);
            sentence(25, "Who sits on a CHAIR by FEW; NONE. UNKNOWN.");
            for (int c = 0; c < x.count(1); c++) {
                due("fewAt(" + c + ") of " + party, x.fewAt(c), NONE);
            }
            for (int no : noneOf(x.count(1))) {
                due("fewAt(" + no + ") of " + party, x.fewAt(no), UNKNOWN);
            }
        }
        for (int people = 0; people <= 7; people++) {
            NoWifeBeside x = at(singles("Ml00", "wwmmwwm".substring(0, people)));
            x.dinner();
            for (int no : noneOf(people)) {
                due("fewAt(" + no + ") of " + people, x.fewAt(no), UNKNOWN);
            }
        }
    }

    // ---- promise 26

    private static void changesRefused() {
        sentence(26, "UNKNOWN; STATE: nothing is kept there, or there are 7 PEOPLE.");
        for (String party : new String[] {"Ml00", "Mr11C", "Mr00CCC", "Mr00CCCSw"}) {
            NoWifeBeside x = at(party);
            for (int slot : NO_SLOTS) {
                due("changes(" + slot + ") of " + party, x.changes(slot), UNKNOWN);
            }
            for (int slot = 0; slot < 2; slot++) {
                due("nothing is kept in " + slot, x.changes(slot), STATE);
            }
            x.keep(1);
            due("nothing is kept in 0", x.changes(0), STATE);
            due("kept in 1", x.changes(1), x.count(1) == 7 ? STATE : 0);
            for (int slot : NO_SLOTS) {
                due("changes(" + slot + ") of " + party, x.changes(slot), UNKNOWN);
            }
        }
        NoWifeBeside x = at("Ml00CSw");
        x.keep(0);
        x.keep(1);
        x.party();
        due("what was kept is gone", x.changes(0), STATE);
        due("what was kept is gone", x.changes(1), STATE);
        sentence(26, "(Asked where there are 6 PEOPLE at most.)");
        for (int people = 0; people <= 7; people++) {
            x = at(singles("Mr00", "wwmmwwm".substring(0, people)));
            x.keep(0);
            due("changes(0) of " + people, x.changes(0), people == 7 ? STATE : 0);
            if (people >= 2) {
                x.swap(0, people - 1);
                due("changes(0) of " + people + ", one swap", x.changes(0), people == 7 ? STATE : 1);
            }
        }
    }

    private static int changesOf(String party, String from, String to) {
        NoWifeBeside x = at(party);
        seat(x, to);
        x.keep(1);
        seat(x, from);
        int acts = x.count(6);
        int changes = x.changes(1);
        due("nobody moved", seated(x), from);
        due("it is no act", x.count(6), acts);
        due("the same once more", x.changes(1), changes);
        return changes;
    }

    private static void changesDue(String party, String from, String to, int want) {
        due("changes of " + party + " from " + from + " to " + to, changesOf(party, from, to), want);
    }

    private static void changesWhereAllIsLawful() {
        sentence(26, "CHANGES to a SLOT: the fewest SWAPS (two change CHAIRS) "
            + "from this SEATING to the one that is kept there");
        changesDue("Ml00Sw", "0", "0", 0);
        changesDue("Mr00C", "01", "10", 1);
        changesDue("Ml00CSw", "012", "210", 1);
        changesDue("Ml00CSw", "012", "120", 2);
        changesDue("Ml00CSw", "201", "120", 2);
        changesDue("Ml00CC", "0123", "1032", 2);
        changesDue("Ml00CC", "0123", "1230", 3);
        changesDue("Mr00CCC", "012345", "123450", 5);
        changesDue("Mr00CCC", "012345", "120453", 4);
        changesDue("Mr00CCC", "012345", "103254", 3);
        changesDue("Mr00CCC", "543210", "543210", 0);
        changesDue("Mr00CCC", "543210", "012345", 3);
    }

    private static void changesByLaw() {
        sentence(26, "by which all SEATINGS ahead of that one and behind this one are LAWFUL "
            + "(this one, the last one may be as they are); NONE.");
        changesDue("Mr11C", "01", "01", 0);
        changesDue("Mr11C", "01", "10", 1);
        changesDue("Mr00CSwQ01", "012", "210", 1);
        changesDue("Mr00CSwQ01", "012", "120", NONE);
        changesDue("Ml00CSwQ01", "012", "012", 0);
        changesDue("Ml00CSwQ01", "012", "102", 1);
        changesDue("Ml00CSwQ01", "012", "201", 2);
        changesDue("Ml00CSwQ01", "012", "120", 2);
        changesDue("Ml00CSwQ01", "120", "012", 2);
        changesDue("Ml10SwSwSmSm", "0213", "1203", 1);
        changesDue("Ml10SwSwSmSm", "0213", "1302", 2);
        changesDue("Ml10SwSwSmSm", "0213", "2031", NONE);
        changesDue("Ml10SwSwSmSm", "2031", "0213", NONE);
        changesDue("Ml10SwSwSmSm", "0123", "0213", 1);
        changesDue("Mr11CCC", "034125", "052143", NONE);
        // longer than two swaps, as the ways of two lead over an unlawful one
        changesDue("Ml00SwSmSmSwQ01", "3210", "2301", 4);
        changesDue("Mr00SwSmSmSwQ01", "3210", "1032", 4);
        changesDue("Ml01CC", "3201", "2310", 4);
        changesDue("Ml00CSwSmT01", "3210", "0123", 4);
        changesDue("Ml01CCSw", "43120", "40213", 6);
        changesDue("Mr01CCSw", "43210", "23401", 6);
    }
}
