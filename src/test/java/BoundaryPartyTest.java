/** Promises 1 to 9, sentence by sentence: the text, its faults, the party, and who is asked for that there is not. */
public final class BoundaryPartyTest extends Sentences {
    private static final String[] RELATIONS = {"Q", "T", "W"};

    public static void main(String[] args) {
        promise1();
        bytesOfWrite();
        fullTexts();
        wipes();
        eachSignOfTheStart();
        eachSignOfAPart();
        roomForPeople();
        relationsOfWhoIsThere();
        relationsTwice();
        worthsTwice();
        notAtItsEnd();
        lengthSetAside();
        partyBegins();
        partyRefused();
        persons();
        chairs();
        worths();
        dinners();
        end(1, 9);
    }

    // ---- promise 1

    private static void promise1() {
        sentence(1, "Nobody.");
        NoWifeBeside x = new NoWifeBeside();
        due("people", x.count(1), 0);
        due("women", x.count(2), 0);
        for (int no : noneOf(0)) {
            due("person(" + no + ", 0)", x.person(no, 0), UNKNOWN);
            due("chair(" + no + ")", x.chair(no), UNKNOWN);
        }
        due("many(false)", x.many(false), 1);
        due("rank()", x.rank(), 0);
        due("wrong()", x.wrong(), NONE);
        due("few()", x.few(), 0);
        due("worthOf(true)", x.worthOf(true), 0);
        due("worthOf(false)", x.worthOf(false), 0);
        due("good()", x.good(), 0);
        sentence(1, "At first THE PARTY is Ml00.");
        x = new NoWifeBeside();
        due("long", x.count(3), 0);
        due("not by turns", x.count(4), 0);
        due("not apart", x.count(5), 0);
        due("lawful", x.count(8), 1);
        due("but the text is empty", x.count(0), 0);
        due("fault()", x.fault(), 0);
        due("party()", x.party(), STATE);
        sentence(1, "(THE SEED, a long; 0 at first)");
        due("seed(1)", new NoWifeBeside().seed(1), 0);
        x = new NoWifeBeside();
        x.draw();
        due("the seed drawn from 0", x.seed(0), 1442695040888963407L);
    }

    // ---- promises 2 and 3

    private static void bytesOfWrite() {
        sentence(2, "n bytes (1 to 8) of v");
        for (int n = 1; n <= 8; n++) {
            NoWifeBeside x = new NoWifeBeside();
            due("write(" + n + ")", x.write(n, -1), n);
            due("write(" + n + ") again", x.write(n, 0), 2 * n);
            due("count(0)", x.count(0), 2 * n);
        }
        for (int n : new int[] {0, 9, -1, -8, 10, 16, 64, 65, 256 + 4, LEAST, LEAST + 4, MOST}) {
            NoWifeBeside x = typed("Ml00");
            due("write(" + n + ")", x.write(n, 'C'), OUTSIDE);
            due("count(0)", x.count(0), 4);
            due("fault()", x.fault(), NONE);
        }
        sentence(2, "the lowest n, the highest of these first");
        String text = "Mr01CSwSm";
        for (int n = 1; n <= 8; n++) {
            for (long above : new long[] {0, -1, 0x4D4D4D4D4D4D4D4DL, 0x8080808080808080L}) {
                NoWifeBeside x = new NoWifeBeside();
                long higher = n == 8 ? 0 : above << 8 * n;
                due("write(" + n + ")", x.write(n, higher | number(text.substring(0, n))), n);
                type(x, text.substring(n));
                due("party()", x.party(), 4);
                due("round, not by turns, apart", x.count(3) * 100 + x.count(4) * 10 + x.count(5), 101);
                due("Sw then Sm", x.person(2, 1) * 10 + x.person(3, 1), 10);
            }
        }
        NoWifeBeside x = new NoWifeBeside();
        x.write(8, 0x8D6C303043430000L);
        due("a byte is not cut to seven bits", x.fault(), 0);
        x = typed("Ml00");
        x.write(8, 0x43000000000000C3L);
        due("the highest byte comes first", x.fault(), 5);
    }

    /** A text of this length (16 to 76) that is a party of six: up to three who sit together, then worths. */
    private static String partyOfLength(int length) {
        StringBuilder text = new StringBuilder("Ml00CCC");
        for (int j = 1; (length - text.length()) % 4 != 0; j++) {
            text.append("T0").append(j);
        }
        for (int i = 0; i < 6; i++) {
            for (int j = i + 1; j < 6 && text.length() < length; j++) {
                text.append('W').append(i).append(j).append(1);
            }
        }
        return text.toString();
    }

    private static void fullTexts() {
        sentence(2, "FULL: it would be longer than 64 (nothing comes).");
        for (int n = 1; n <= 8; n++) {
            NoWifeBeside x = typed(partyOfLength(65 - n));
            due("so long", x.count(0), 65 - n);
            due("a party", x.fault(), NONE);
            due("write(" + n + ") of one too many", x.write(n, 0), FULL);
            due("so long still", x.count(0), 65 - n);
            due("nothing came", x.fault(), NONE);
            x = typed(partyOfLength(64 - n));
            due("write(" + n + ") up to 64", x.write(n, 0), 64);
            due("they came", x.fault(), 64 - n);
            for (int more = 1; more <= 8; more++) {
                due("write(" + more + ") of 64", x.write(more, 'M'), FULL);
            }
            due("64 still", x.count(0), 64);
        }
        sentence(2, "of several the first that a call names");
        NoWifeBeside x = typed(partyOfLength(64));
        for (int n : new int[] {0, 9, -1, LEAST, MOST}) {
            due("write(" + n + ") of 64", x.write(n, 1), OUTSIDE);
        }
        due("64 bytes are a party", x.party(), 6);
        sentence(2, "THE TEXT is bytes (64 at most).");
        due("wipe()", x.wipe(), 64);
        due("there is room again", x.write(8, 1), 8);
    }

    private static void wipes() {
        sentence(3, "THE TEXT is empty: how long it was.");
        NoWifeBeside x = new NoWifeBeside();
        due("wipe() of an empty one", x.wipe(), 0);
        due("fault()", x.fault(), 0);
        x = at("Mr11C");
        x.keep(0);
        x.swap(0, 1);
        due("wipe()", x.wipe(), 5);
        due("count(0)", x.count(0), 0);
        due("fault()", x.fault(), 0);
        due("wipe() again", x.wipe(), 0);
        due("the party stays", x.count(1) * 1000 + x.count(3) * 100 + x.count(4) * 10 + x.count(5), 2111);
        due("seated", seated(x), "10");
        due("the act stays", x.count(6), 1);
        due("kept", x.changes(0), 1);
        type(x, "Ml00Sw");
        due("nothing is left of the old one", x.party(), 1);
    }

    // ---- promise 4

    /** Behind this start each byte but those is a fault, at its own place. */
    private static void accepts(String start, String those) {
        for (int sign = 0; sign < 256; sign++) {
            int fault = typed(start + (char) sign).fault();
            boolean stands = fault == NONE || fault == start.length() + 1;
            if (those.indexOf(sign) < 0) {
                due("fault() of " + start + " and " + sign, fault, start.length());
            } else {
                due("whether " + start + " and " + (char) sign + " can go on", stands ? 1 : 0, 1);
            }
        }
    }

    private static void faultOf(String text, int want) {
        due("fault() of " + text, typed(text).fault(), want);
    }

    private static void eachSignOfTheStart() {
        sentence(4, "A PARTY is a TEXT: M, then r or l (a ROUND table, a LONG one), "
            + "then two figures 0 or 1: BY TURNS, APART");
        accepts("", "M");
        accepts("M", "rl");
        for (String table : new String[] {"Mr", "Ml"}) {
            accepts(table, "01");
            accepts(table + "0", "01");
            accepts(table + "1", "01");
        }
        sentence(4, "then PARTS, none or more:");
        for (String start : new String[] {"Mr00", "Mr01", "Mr10", "Mr11", "Ml00", "Ml01", "Ml10", "Ml11"}) {
            faultOf(start, NONE);
            accepts(start, "CS");
            faultOf(start + "CC", NONE);
        }
    }

    private static void eachSignOfAPart() {
        sentence(4, "a single one, w (a woman) or m (a man)");
        accepts("Mr00S", "wm");
        accepts("Mr00CCCS", "wm");
        sentence(4, "PERSONS i and j (unlike, told ahead) have a QUARREL");
        accepts("Mr00Sw", "CS");
        accepts("Mr00C", "CSQTW");
        for (String relation : RELATIONS) {
            accepts("Mr00C" + relation, "01");
            accepts("Mr00C" + relation + "0", "1");
            accepts("Mr00C" + relation + "1", "0");
            accepts("Mr00CCCSm" + relation, "0123456");
            accepts("Mr00CCCSm" + relation + "6", "012345");
            accepts("Mr00CCCSm" + relation + "0", "123456");
            accepts("Mr00CCCSm" + relation + "3", "012456");
        }
        sentence(4, "i beside j is worth v (1 to 9) to i");
        accepts("Mr00CW01", "123456789");
        accepts("Mr00CCCSmW60", "123456789");
        for (int v = 1; v <= 9; v++) {
            faultOf("Mr00CW01" + v, NONE);
            due("worth(0, 1)", at("Mr00CW01" + v).worth(0, 1), v);
        }
        faultOf("Mr00CW010", 8);
    }

    private static void roomForPeople() {
        sentence(4, "7 at most in all; there must be room for both");
        accepts("Mr00CCC", "SQTW");
        accepts("Mr00CCCSw", "QTW");
        accepts("Mr00SwCCC", "QTW");
        accepts(singles("Mr00", "wmwmw"), "CSQTW");
        accepts(singles("Mr00", "wmwmwm"), "SQTW");
        accepts(singles("Mr00", "wmwmwmw"), "QTW");
        faultOf(singles("Mr00", "wmwmw") + "C", NONE);
        faultOf("Mr00CCSwSwSw", NONE);
        due("party() of seven", typed("Mr00CCSwSwSw").party(), 7);
        due("party() of eight", typed("Mr00CCCC").party(), STATE);
        sentence(4, "a couple: a woman, and behind her a man (PEOPLE are numbered as they are told;");
        NoWifeBeside x = at("Mr00SmCSwC");
        int[] women = {0, 1, 0, 1, 1, 0};
        int[] mates = {NONE, 2, 1, NONE, 5, 4};
        for (int k = 0; k < 6; k++) {
            due("person(" + k + ", 1)", x.person(k, 1), women[k]);
            due("person(" + k + ", 2)", x.person(k, 2), mates[k]);
        }
    }

    private static void relationsOfWhoIsThere() {
        sentence(4, "whatever came behind it");
        for (String relation : RELATIONS) {
            faultOf("Mr00" + relation, 4);
            faultOf("Mr00" + relation + "01", 4);
            faultOf("Mr00" + relation + "01C", 4);
            faultOf("Mr00Sw" + relation + "0", 6);
            faultOf("Mr00C" + relation + "2", 6);
            faultOf("Mr00C" + relation + "02Sw", 7);
            faultOf("Mr00C" + relation + "00", 7);
            faultOf("Mr00C" + relation + "11", 7);
            faultOf("Mr00C" + relation + "0" + relation, 7);
        }
        faultOf("Mr00CSxW", 6);
        faultOf("X" + "Mr00", 0);
        faultOf("Mr00C" + (char) 0 + "C", 5);
        faultOf("Mr00C ", 5);
        faultOf("Mr00C\n", 5);
    }

    private static void relationsTwice() {
        sentence(4, "(No two have a QUARREL, or are TOGETHER, twice, in whichever order, or both.)");
        for (String first : new String[] {"Q01", "Q10", "T01", "T10"}) {
            accepts("Mr00C" + first, "CSW");
            accepts("Mr00CSw" + first, "CSQTW");
            for (String again : new String[] {"Q", "T"}) {
                accepts("Mr00CSw" + first + again, "012");
                accepts("Mr00CSw" + first + again + "0", "2");
                accepts("Mr00CSw" + first + again + "1", "2");
                accepts("Mr00CSw" + first + again + "2", "01");
                faultOf("Mr00CSw" + first + again + "01", 12);
                faultOf("Mr00CSw" + first + again + "10", 12);
            }
        }
        accepts("Mr00CSwQ01T20", "CSQTW");
        accepts("Mr00CSwQ01T20Q", "12");
        accepts("Mr00CSwQ01T20T", "12");
        accepts("Mr00CSwQ01T20T21", "CSW");
        accepts("Mr00CSwQ01T20T21Sw", "CSQTW");
        accepts("Mr00CSwQ01T20T21SwQ", "0123");
        accepts("Mr00CSwQ01T20T21SwQ0", "3");
        accepts("Mr00CSwQ01T20T21SwQ3", "012");
    }

    private static void worthsTwice() {
        sentence(4, "(no such row twice)");
        accepts("Mr00CW011", "CSQTW");
        accepts("Mr00CW011W", "1");
        accepts("Mr00CW105W", "0");
        accepts("Mr00CW011W102", "CSQT");
        accepts("Mr00CW011W102Sw", "CSQTW");
        accepts("Mr00CW011W102SwW", "012");
        accepts("Mr00CW011W102SwW0", "2");
        accepts("Mr00CSwW011W0", "2");
        accepts("Mr00CSwW011W1", "02");
        faultOf("Mr00CSwW011W011", 13);
        faultOf("Mr00CSwW011W019", 13);
        faultOf("Mr00CW011Q01", NONE);
        faultOf("Mr00CT01W011W101", NONE);
    }

    private static void notAtItsEnd() {
        sentence(4, "its length, if it is only not at its end; NONE: none.");
        String whole = "Mr00CSwQ01T02W123";
        int[] want = {0, 1, 2, 3, NONE, NONE, 6, NONE, 8, 9, NONE, 11, 12, NONE, 14, 15, 16, NONE};
        for (int length = 0; length <= whole.length(); length++) {
            faultOf(whole.substring(0, length), want[length]);
        }
        sentence(4, "FAULT; NONE.");
        NoWifeBeside x = at("Ml00CSwQ01");
        x.take(1);
        x.wipe();
        type(x, "Mr11SmSm");
        due("fault()", x.fault(), NONE);
        due("fault() again", x.fault(), NONE);
        due("the party is as it was", x.count(1) * 1000 + x.count(2) * 100 + x.count(3) * 10 + x.count(4), 3200);
        due("its quarrel", x.person(0, 3), 2);
        due("its lawful ones", x.many(false), 2);
        due("seated", seated(x), "120");
        due("its row of acts", x.count(6), 1);
    }

    private static void lengthSetAside() {
        sentence(4, "(its length set aside)");
        String most = partyOfLength(63);
        faultOf(most, NONE);
        faultOf(most + "W", 64);
        faultOf(most + "S", 64);
        faultOf(most + "M", 63);
        faultOf(partyOfLength(62) + "W4", 64);
        faultOf(partyOfLength(62) + "W0", 63);
        faultOf(partyOfLength(61) + "W40", 64);
        faultOf(partyOfLength(61) + "W44", 63);
        faultOf(partyOfLength(64), NONE);
        due("party() of 64 that is not at its end", typed(most + "S").party(), STATE);
    }

    // ---- promise 5

    private static NoWifeBeside busy(String text) {
        NoWifeBeside x = at(text);
        x.dinner();
        x.swap(0, 2);
        x.dinner();
        x.keep(0);
        x.keep(1);
        x.gossip(0, 1, true);
        x.gossip(1, 2, false);
        x.seed(-77);
        return x;
    }

    private static void partyBegins() {
        sentence(5, "nobody DINED, THE ROW of ACTS is empty, what was kept is gone; GOSSIP, THE SEED stay");
        for (String next : new String[] {"Ml00CSw", "Mr00CCSw"}) {
            NoWifeBeside x = busy("Ml00CSw");
            retell(x, next);
            due("nobody dined", dinedTogether(x).replaceAll("[0 ]", ""), "");
            due("few()", x.few(), 0);
            due("acts", x.count(6), 0);
            due("undo()", x.undo(), STATE);
            for (int slot = 0; slot < 2; slot++) {
                due("changes(" + slot + ")", x.changes(slot), STATE);
                due("again(" + slot + ")", x.again(slot), STATE);
            }
            due("gossip", x.count(7), 2);
            due("seed", x.seed(0), -77);
        }
        NoWifeBeside x = busy("Ml00CSw");
        retell(x, "Ml00CSw");
        due("gossip is looked at", x.fits(0), 2);
        sentence(5, "THE TEXT is THE PARTY");
        due("the text stays", x.count(0), 7);
        due("party() once more", x.party(), 3);
        type(x, "Sm");
        due("the text goes on", x.party(), 4);
        sentence(5, "At first PERSON k sits on CHAIR k.");
        for (String text : new String[] {"Ml00Sw", "Mr00C", "Ml11CSw", "Mr11CC", "Ml00CCSw", "Mr11CCC", "Mr11CCCSw"}) {
            x = at(text);
            due("seated", seated(x), "0123456".substring(0, x.count(1)));
        }
        x = at("Ml00CSw");
        seat(x, "210");
        due("party() again", x.party(), 3);
        due("seated anew", seated(x), "012");
        sentence(5, "how many PEOPLE");
        for (int people = 0; people <= 7; people++) {
            due("party()", typed(singles("Mr11", "wwmmwmw".substring(0, people))).party(), people);
        }
        nothingOfTheOldParty();
    }

    private static void nothingOfTheOldParty() {
        sentence(5, "THE TEXT is THE PARTY");
        NoWifeBeside x = at("Mr11CCCSwQ02T13W019W105W205");
        for (int k = 0; k < 2; k++) {
            retell(x, "Ml00SmSmSmSm");
            due("people", x.count(1), 4);
            due("women, round, by turns, apart", x.count(2) + x.count(3) + x.count(4) + x.count(5), 0);
            for (int i = 0; i < 4; i++) {
                due("mate", x.person(i, 2), NONE);
                due("quarrels, togethers", x.person(i, 3) + x.person(i, 4), 0);
                due("worths", x.worth(i, (i + 1) % 4) + x.worth(i, (i + 2) % 4), 0);
            }
            due("many(false)", x.many(false), 24);
            due("person(4, 0)", x.person(4, 0), UNKNOWN);
        }
        retell(x, "Mr00");
        due("nobody again", x.count(1), 0);
        due("many(true)", x.many(true), 1);
    }

    private static void partyRefused() {
        sentence(5, "STATE: a FAULT.");
        for (String text : new String[] {"", "M", "Ml0", "X", "Ml00Q", "Ml00CQ0", "Ml00CCCC", "Ml00Sx", "Ml00CW010"}) {
            NoWifeBeside x = busy("Ml00CSw");
            x.wipe();
            type(x, text);
            due("party() of " + text, x.party(), STATE);
            due("people", x.count(1), 3);
            due("seated", seated(x), "210");
            due("dined", dinedTogether(x), "2 0 2");
            due("acts", x.count(6), 3);
            due("changes(0)", x.changes(0), 0);
            due("undo()", x.undo(), 2);
            due("again(1)", x.again(1), 1);
            due("the text stays", x.count(0), text.length());
            due("gossip", x.count(7), 2);
        }
    }

    // ---- promises 6 to 9

    private static void persons() {
        sentence(6, "UNKNOWN; OUTSIDE.");
        for (int people = 0; people <= 7; people++) {
            NoWifeBeside x = at(singles("Ml00", "wmwmwmw".substring(0, people)));
            for (int no : noneOf(people)) {
                for (int what : new int[] {0, 5, 6, -1}) {
                    due("person(" + no + ", " + what + ") of " + people, x.person(no, what), UNKNOWN);
                }
            }
            for (int k = 0; k < people; k++) {
                due("person(" + k + ", 0)", x.person(k, 0), k);
                for (int what : new int[] {6, 7, 8, -1, 256, LEAST, MOST}) {
                    due("person(" + k + ", " + what + ")", x.person(k, what), OUTSIDE);
                }
            }
        }
        sentence(6, "who is of its couple (2; NONE)");
        NoWifeBeside x = at("Ml00CSwCSmSm");
        int[] mates = {1, 0, NONE, 4, 3, NONE, NONE};
        for (int k = 0; k < 7; k++) {
            due("person(" + k + ", 2)", x.person(k, 2), mates[k]);
        }
        x = at("Ml00SwSmSmSwSwC");
        due("the last couple", x.person(5, 2) * 10 + x.person(6, 2), 65);
        sentence(6, "with whom it has a QUARREL (3: bits), must sit TOGETHER (4: bits)");
        x = at("Ml00CCCSmQ06Q16T65Q20T43");
        int[] quarrels = {64 + 4, 64, 1, 0, 0, 0, 3};
        int[] togethers = {0, 0, 0, 16, 8, 64, 32};
        for (int k = 0; k < 7; k++) {
            due("person(" + k + ", 3)", x.person(k, 3), quarrels[k]);
            due("person(" + k + ", 4)", x.person(k, 4), togethers[k]);
        }
        sentence(6, "what it is worth to it to sit as it does (5)");
        worthsAsTheySit();
    }

    private static void worthsAsTheySit() {
        due("alone", at("Mr00Sw").person(0, 5), 0);
        due("two at a round table are neighbours once", at("Mr00CW017W103").person(0, 5), 7);
        due("the other one", at("Mr00CW017W103").person(1, 5), 3);
        due("first and last of three, round", at("Mr00CSwW017W022").person(0, 5), 9);
        due("last and first of three, round", at("Mr00CSwW207W212").person(2, 5), 9);
        due("first and last of three, long", at("Ml00CSwW017W022").person(0, 5), 7);
        due("last and first of three, long", at("Ml00CSwW207W212").person(2, 5), 2);
        due("first and last of seven, round", at("Mr00CCCSwW069W011").person(0, 5), 10);
        due("first and last of seven, long", at("Ml00CCCSwW069W011").person(0, 5), 1);
        NoWifeBeside x = at("Ml00CCW019W028W037");
        due("0 on chair 0", x.person(0, 5), 9);
        seat(x, "1023");
        due("0 on chair 1", x.person(0, 5), 17);
        seat(x, "1230");
        due("0 on chair 3", x.person(0, 5), 7);
    }

    private static void chairs() {
        sentence(7, "There are as many CHAIRS (0, 1, ..) as PEOPLE");
        for (int people = 0; people <= 7; people++) {
            NoWifeBeside x = at(singles("Mr00", "mwmwmwm".substring(0, people)));
            for (int c = 0; c < people; c++) {
                due("chair(" + c + ")", x.chair(c), c);
            }
            for (int no : noneOf(people)) {
                due("chair(" + no + ") of " + people, x.chair(no), UNKNOWN);
            }
        }
        sentence(7, "Who sits on a CHAIR.");
        NoWifeBeside x = at("Ml00CCCSm");
        seat(x, "6304152");
        int[] who = {6, 3, 0, 4, 1, 5, 2};
        for (int c = 0; c < 7; c++) {
            due("chair(" + c + ")", x.chair(c), who[c]);
            due("person(" + who[c] + ", 0)", x.person(who[c], 0), c);
        }
    }

    private static void worths() {
        sentence(8, "What i beside j is worth to i. UNKNOWN: both.");
        NoWifeBeside x = at("Ml00CCCSmW061W609W122W213");
        due("worth(0, 6)", x.worth(0, 6), 1);
        due("worth(6, 0)", x.worth(6, 0), 9);
        due("worth(1, 2)", x.worth(1, 2), 2);
        due("worth(2, 1)", x.worth(2, 1), 3);
        due("worth(0, 1), not told", x.worth(0, 1), 0);
        for (int k = 0; k < 7; k++) {
            due("worth(" + k + ", itself)", x.worth(k, k), 0);
        }
        for (int people : new int[] {0, 1, 3, 7}) {
            x = at(singles("Ml00", "mwmwmwm".substring(0, people)));
            for (int no : noneOf(people)) {
                due("worth(" + no + ", 0)", x.worth(no, 0), UNKNOWN);
                due("worth(0, " + no + ")", x.worth(0, no), UNKNOWN);
                due("worth(" + no + ", itself)", x.worth(no, no), UNKNOWN);
            }
        }
    }

    private static void dinners() {
        sentence(9, "How often two DINED together. UNKNOWN: both.");
        NoWifeBeside x = at("Mr00CCCSm");
        x.dinner();
        x.dinner();
        due("first and last", x.dined(0, 6), 2);
        due("last and first", x.dined(6, 0), 2);
        due("dined(3, 4)", x.dined(3, 4), 2);
        due("dined(0, 2), no neighbours", x.dined(0, 2), 0);
        for (int k = 0; k < 7; k++) {
            due("dined(" + k + ", itself)", x.dined(k, k), 0);
        }
        for (int people : new int[] {0, 1, 3, 7}) {
            x = at(singles("Ml00", "mwmwmwm".substring(0, people)));
            x.dinner();
            for (int no : noneOf(people)) {
                due("dined(" + no + ", 0)", x.dined(no, 0), UNKNOWN);
                due("dined(0, " + no + ")", x.dined(0, no), UNKNOWN);
                due("dined(" + no + ", itself)", x.dined(no, no), UNKNOWN);
            }
        }
    }
}
