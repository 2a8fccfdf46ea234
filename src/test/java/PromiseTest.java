import java.math.BigInteger;

/** Each promise of the document by its number; the answers due were found by hand. */
public final class PromiseTest {
    private static final int UNKNOWN = -1, OUTSIDE = -2, STATE = -3, FULL = -4, NONE = -9;
    private static final int LEAST = Integer.MIN_VALUE, MOST = Integer.MAX_VALUE;
    private static final int[] NO_PERSONS = {-1, 7, 8, 64, LEAST, MOST};

    private static int wrong = 0;
    private static int asked = 0;
    private static int promise = 0;

    public static void main(String[] args) {
        promise1();
        promise2();
        promise3();
        promise4();
        promise4Relations();
        promise4Room();
        promise5();
        promise6();
        promise7();
        promises8And9();
        promise10();
        promise11();
        promise12();
        promise13();
        promise14();
        promise15();
        promise16();
        promise17();
        promise18();
        promise19();
        promise20();
        promise21();
        promises22And23();
        promises24And25();
        promise26();
        promise26ByLaw();
        promises27And28();
        promises29And30();
        promise31();
        promises32And33();
        promise34();
        refusedChangesNothing();
        System.out.println(asked + " answers of promises 1 to 34, " + wrong + " not as due");
        if (wrong > 0) {
            System.exit(1);
        }
    }

    private static void due(String what, long got, long want) {
        asked++;
        if (got != want) {
            wrong++;
            System.out.println("promise " + promise + ": " + what + " answered " + got + ", due is " + want);
        }
    }

    private static void type(NoWifeBeside x, String text) {
        for (char sign : text.toCharArray()) {
            x.write(1, sign);
        }
    }

    private static NoWifeBeside typed(String text) {
        NoWifeBeside x = new NoWifeBeside();
        type(x, text);
        return x;
    }

    private static NoWifeBeside at(String text) {
        NoWifeBeside x = typed(text);
        due("fault() of " + text, x.fault(), NONE);
        x.party();
        return x;
    }

    private static void retell(NoWifeBeside x, String text) {
        x.wipe();
        type(x, text);
        due("fault() of " + text, x.fault(), NONE);
        x.party();
    }

    /** Who sits on chairs 0, 1, .. as figures. */
    private static void seated(String what, NoWifeBeside x, String want) {
        StringBuilder got = new StringBuilder();
        for (int c = 0; c < x.count(1); c++) {
            got.append(x.chair(c));
        }
        asked++;
        if (!got.toString().equals(want)) {
            wrong++;
            System.out.println("promise " + promise + ": " + what + ": " + got + " sit there, due is " + want);
        }
    }

    /** All that can be asked without a change, as a text. */
    private static String all(NoWifeBeside x) {
        StringBuilder all = new StringBuilder();
        for (int what = 0; what < 9; what++) {
            all.append(x.count(what)).append(' ');
        }
        for (int i = 0; i < x.count(1); i++) {
            for (int what = 0; what < 6; what++) {
                all.append(x.person(i, what)).append(' ');
            }
            for (int j = 0; j < x.count(1); j++) {
                all.append(x.dined(i, j)).append(' ').append(x.worth(i, j)).append(' ');
            }
        }
        all.append(x.fault()).append(' ').append(x.rank()).append(' ').append(x.many(false)).append(' ').append(x.few());
        all.append(' ').append(x.fits(0)).append(' ').append(x.fits(1)).append(' ').append(x.worthOf(true));
        all.append(' ').append(x.changes(0)).append(' ').append(x.changes(1));
        long seed = x.seed(0);
        x.seed(seed);
        return all.append(' ').append(seed).toString();
    }

    private static void promise1() {
        promise = 1;
        NoWifeBeside x = new NoWifeBeside();
        for (int what = 0; what < 8; what++) {
            due("count(" + what + ")", x.count(what), 0);
        }
        due("count(8)", x.count(8), 1);
        due("seed(0)", x.seed(0), 0);
        due("again(0)", x.again(0), STATE);
        due("again(1)", x.again(1), STATE);
        due("undo()", x.undo(), STATE);
        due("hush()", x.hush(), 0);
        due("many(true)", x.many(true), 1);
        due("fault()", x.fault(), 0);
    }

    private static void promise2() {
        promise = 2;
        NoWifeBeside x = new NoWifeBeside();
        for (int n : new int[] {0, -1, 9, 10, LEAST, MOST}) {
            due("write(" + n + ")", x.write(n, 77), OUTSIDE);
        }
        due("count(0)", x.count(0), 0);
        due("the lowest 4", x.write(4, 0xFEDCBA984D6C3030L), 4);
        due("they are Ml00", x.fault(), NONE);
        due("two more", x.write(2, ('S' << 8) + 'w'), 6);
        due("they are Sw", x.fault(), NONE);
        due("eight more, negative", x.write(8, -1L), 14);
        for (int k = 0; k < 46; k++) {
            x.write(1, 'x');
        }
        due("count(0)", x.count(0), 60);
        due("five of 60", x.write(5, 1), FULL);
        due("count(0)", x.count(0), 60);
        due("four of 60", x.write(4, 1), 64);
        due("one of 64", x.write(1, 1), FULL);
        due("nine of 64", x.write(9, 1), OUTSIDE);
        due("wipe()", x.wipe(), 64);
        x = new NoWifeBeside();
        due("Ml00SwSm", x.write(8, 0x4D6C303053775367L), 8);
        due("its last sign is g", x.fault(), 7);
    }

    private static void promise3() {
        promise = 3;
        NoWifeBeside x = at("Ml00C");
        due("wipe()", x.wipe(), 5);
        due("wipe()", x.wipe(), 0);
        due("the party stays", x.count(1), 2);
        due("fault()", x.fault(), 0);
        due("write", x.write(1, 'M'), 1);
        due("fault()", x.fault(), 1);
    }

    private static void faultOf(String text, int want) {
        due("fault() of " + text, typed(text).fault(), want);
    }

    private static void promise4() {
        promise = 4;
        faultOf("", 0);
        faultOf("X", 0);
        faultOf("ml00", 0);
        faultOf("M", 1);
        faultOf("MR00", 1);
        faultOf("M" + (char) ('r' + 128), 1);
        faultOf("M" + (char) 0, 1);
        faultOf("Mr", 2);
        faultOf("Ml", 2);
        faultOf("Mr2", 2);
        faultOf("Mr/", 2);
        faultOf("Mr0", 3);
        faultOf("Mr0x", 3);
        faultOf("Mr12", 3);
        faultOf("Mr00", NONE);
        faultOf("Ml11", NONE);
        faultOf("Mr00c", 4);
        faultOf("Mr00M", 4);
        faultOf("Mr00S", 5);
        faultOf("Mr00Sx", 5);
        faultOf("Mr00SwSm", NONE);
        faultOf("X000", 0);
    }

    private static void promise4Relations() {
        for (String part : new String[] {"Q", "T", "W"}) {
            faultOf("Mr00" + part, 4);
            faultOf("Mr00Sw" + part, 6);
            faultOf("Mr00C" + part, 6);
            faultOf("Mr00C" + part + "2", 6);
            faultOf("Mr00C" + part + "/", 6);
            faultOf("Mr00C" + part + "x", 6);
            faultOf("Mr00C" + part + "0", 7);
            faultOf("Mr00C" + part + "00", 7);
            faultOf("Mr00C" + part + "02", 7);
            faultOf("Mr00C" + part + "02Sm", 7);
        }
        for (String two : new String[] {"Q01", "Q10", "T01", "T10"}) {
            faultOf("Mr00C" + two, NONE);
            faultOf("Mr00C" + two + "Q", 8);
            faultOf("Mr00C" + two + "T", 8);
            faultOf("Mr00C" + two + "W", 9);
            faultOf("Mr00CSm" + two + "Q0", 12);
            faultOf("Mr00CSm" + two + "Q01", 12);
            faultOf("Mr00CSm" + two + "T10", 12);
            faultOf("Mr00CSm" + two + "Q02T0", 14);
            faultOf("Mr00CSm" + two + "T20Q1", 15);
            faultOf("Mr00CSm" + two + "T20Q12", NONE);
            faultOf("Mr00CSm" + two + "T20Q12Q", 16);
            faultOf("Mr00CSm" + two + "T20Q12Sw", NONE);
            faultOf("Mr00CSm" + two + "T20Q12SwQ03", NONE);
        }
        faultOf("Mr00CW01", 8);
        faultOf("Mr00CW010", 8);
        faultOf("Mr00CW01:", 8);
        faultOf("Mr00CW011", NONE);
        faultOf("Mr00CW019", NONE);
        faultOf("Mr00CW019W", 10);
        faultOf("Mr00CW019W0", 10);
        faultOf("Mr00CW019W1", 11);
        faultOf("Mr00CW019W103", NONE);
        faultOf("Mr00CW019W103W", 13);
        faultOf("Mr00CW019W103Q01", NONE);
        faultOf("Mr00CW103W", 10);
        faultOf("Mr00CW103W1", 10);
        faultOf("Mr00CW103W0", 11);
        faultOf("Mr00CSwW019W01", 13);
    }

    private static void promise4Room() {
        faultOf("Mr00CCCC", 7);
        faultOf("Mr00CCCS", 8);
        faultOf("Mr00CCCSw", NONE);
        faultOf("Mr00CCCSwS", 9);
        faultOf("Mr00CCCSwC", 9);
        faultOf("Mr00CCSwC", NONE);
        faultOf("Mr00CCSwSmC", 10);
        faultOf("Mr00CCSwSmSm", NONE);
        faultOf("Mr00SmSmSmSmSmSmSm", NONE);
        faultOf("Mr00SmSmSmSmSmSmSmS", 18);
        StringBuilder text = new StringBuilder("Ml00CCCSm");
        for (int i = 0; i < 7 && text.length() < 63; i++) {
            for (int j = i + 1; j < 7 && text.length() < 63; j++) {
                text.append('Q').append(i).append(j);
            }
        }
        faultOf(text.toString(), NONE);
        faultOf(text + "Q", 64);
        faultOf(text + "x", 63);
    }

    private static void promise5() {
        promise = 5;
        NoWifeBeside x = typed("Mr01CSm");
        due("party()", x.party(), 3);
        due("the text stays", x.count(0), 7);
        due("round", x.count(3), 1);
        due("by turns", x.count(4), 0);
        due("apart", x.count(5), 1);
        x.swap(0, 2);
        x.dinner();
        x.keep(0);
        x.keep(1);
        x.gossip(0, 1, true);
        x.seed(77);
        type(x, "x");
        due("party() of a fault", x.party(), STATE);
        due("nobody went", x.count(1), 3);
        seated("nobody moved", x, "210");
        due("acts stay", x.count(6), 2);
        due("dined stays", x.dined(0, 1), 1);
        due("kept stays", x.again(1), 0);
        x.swap(0, 1);
        retell(x, "Mr01CSm");
        seated("as told", x, "012");
        due("nobody dined", x.dined(0, 1) + x.dined(1, 2) + x.dined(0, 2), 0);
        due("no acts", x.count(6), 0);
        due("undo()", x.undo(), STATE);
        due("again(0)", x.again(0), STATE);
        due("again(1)", x.again(1), STATE);
        due("gossip stays", x.count(7), 1);
        due("the seed stays", x.seed(0), 77);
        x.wipe();
        due("party() of nothing", x.party(), STATE);
        due("nobody went", x.count(1), 3);
        retell(x, "Ml10");
        due("nobody", x.count(1), 0);
        due("long", x.count(3), 0);
        due("by turns", x.count(4), 1);
        due("not apart", x.count(5), 0);
        retell(x, "Ml00CW015Q01");
        retell(x, "Ml00C");
        due("worths are gone", x.worth(0, 1), 0);
        due("quarrels are gone", x.person(0, 3), 0);
        due("lawful anew", x.many(false), 2);
        for (int k = 0; k < 3; k++) {
            retell(x, k == 0 ? "Mr11CSw" : "Ml00SmSmSm");
        }
        due("women are gone", x.count(2), 0);
        due("couples are gone", x.person(0, 2), NONE);
        due("all is lawful", x.many(false), 6);
    }

    private static void person(NoWifeBeside x, int what, int... want) {
        for (int k = 0; k < want.length; k++) {
            due("person(" + k + ", " + what + ")", x.person(k, what), want[k]);
        }
    }

    private static void promise6() {
        promise = 6;
        NoWifeBeside x = at("Mr00CSwSmQ02T13W015W103W209W034");
        person(x, 0, 0, 1, 2, 3);
        person(x, 1, 1, 0, 1, 0);
        person(x, 2, 1, 0, NONE, NONE);
        person(x, 3, 4, 0, 1, 0);
        person(x, 4, 0, 8, 0, 2);
        person(x, 5, 9, 3, 0, 0);
        x.swap(0, 3);
        person(x, 0, 3, 1, 2, 0);
        person(x, 5, 4, 0, 9, 0);
        for (int no : NO_PERSONS) {
            due("person(" + no + ", 0)", x.person(no, 0), UNKNOWN);
            due("person(" + no + ", 6)", x.person(no, 6), UNKNOWN);
        }
        due("person(4, 0)", x.person(4, 0), UNKNOWN);
        for (int what : new int[] {-1, 6, LEAST, MOST}) {
            due("person(0, " + what + ")", x.person(0, what), OUTSIDE);
        }
        x = at("Ml00CSwSmW034W012");
        person(x, 5, 2, 0, 0, 0);
        x = at("Mr00CW015");
        person(x, 5, 5, 0);
        x = at("Ml00SmC");
        person(x, 2, NONE, 2, 1);
    }

    private static void promise7() {
        promise = 7;
        NoWifeBeside x = at("Ml00CC");
        seated("as told", x, "0123");
        x.swap(1, 3);
        seated("swapped", x, "0321");
        due("chair(4)", x.chair(4), UNKNOWN);
        for (int no : NO_PERSONS) {
            due("chair(" + no + ")", x.chair(no), UNKNOWN);
        }
    }

    private static void promises8And9() {
        promise = 8;
        NoWifeBeside x = at("Mr00CSwSmW015W103W209");
        due("worth(0, 1)", x.worth(0, 1), 5);
        due("worth(1, 0)", x.worth(1, 0), 3);
        due("worth(2, 0)", x.worth(2, 0), 9);
        due("worth(0, 2)", x.worth(0, 2), 0);
        due("worth(2, 2)", x.worth(2, 2), 0);
        promise = 9;
        due("dined(0, 1)", x.dined(0, 1), 0);
        x.dinner();
        due("dined(0, 1)", x.dined(0, 1), 1);
        due("dined(1, 0)", x.dined(1, 0), 1);
        due("dined(3, 0)", x.dined(3, 0), 1);
        due("dined(0, 2)", x.dined(0, 2), 0);
        due("dined(1, 1)", x.dined(1, 1), 0);
        x.swap(1, 2);
        x.dinner();
        due("dined(0, 1)", x.dined(0, 1), 1);
        due("dined(2, 0)", x.dined(2, 0), 1);
        due("dined(2, 1)", x.dined(2, 1), 2);
        for (int no : new int[] {-1, 4, 7, 8, LEAST, MOST}) {
            promise = 8;
            due("worth(" + no + ", 0)", x.worth(no, 0), UNKNOWN);
            due("worth(0, " + no + ")", x.worth(0, no), UNKNOWN);
            promise = 9;
            due("dined(" + no + ", 0)", x.dined(no, 0), UNKNOWN);
            due("dined(0, " + no + ")", x.dined(0, no), UNKNOWN);
        }
    }

    private static void manyOf(String text, int want, int alike) {
        NoWifeBeside x = at(text);
        due("many(false) of " + text, x.many(false), want);
        due("many(true) of " + text, x.many(true), alike);
    }

    private static void promise10() {
        promise = 10;
        manyOf("Ml00", 1, 1);
        manyOf("Mr11", 1, 1);
        manyOf("Mr11Sw", 1, 1);
        manyOf("Mr00SwSw", 2, 1);
        manyOf("Mr10SwSw", 0, 0);
        manyOf("Ml10C", 2, 2);
        manyOf("Mr01C", 0, 0);
        manyOf("Mr11CC", 0, 0);
        manyOf("Mr01CC", 8, 2);
        manyOf("Mr11CCC", 12, 2);
        manyOf("Mr01CCC", 192, 32);
        manyOf("Ml00CCC", 720, 720);
        manyOf("Mr00CCCSw", 5040, 720);
        manyOf("Ml00CSwT01", 4, 4);
        manyOf("Mr00CSwT01", 6, 2);
        manyOf("Ml00CSwQ01", 2, 2);
        manyOf("Mr00CSwQ01", 0, 0);
        manyOf("Mr00CSwT01T02T12", 6, 2);
        manyOf("Ml00CSwT01T02T12", 0, 0);
        manyOf("Mr10CSw", 0, 0);
        manyOf("Ml10CSw", 2, 2);
        manyOf("Ml01CT01", 0, 0);
        manyOf("Ml01CSmSwQ12", 4, 4);
    }

    private static void luckOf(String text, int above, int below) {
        NoWifeBeside x = at(text);
        due("luck(true) of " + text, x.luck(true), above);
        due("luck(false) of " + text, x.luck(false), below);
    }

    private static void promise11() {
        promise = 11;
        luckOf("Ml00", 1, 1);
        luckOf("Mr00CCCSm", 1, 1);
        luckOf("Mr11CCC", 1, 60);
        luckOf("Mr01CCC", 4, 15);
        luckOf("Ml00CSwT01", 2, 3);
        luckOf("Mr01C", 0, 1);
        luckOf("Mr01CC", 1, 3);
    }

    private static void promise12() {
        promise = 12;
        NoWifeBeside x = at("Ml00CSw");
        due("rank() of 012", x.rank(), 0);
        x.swap(1, 2);
        due("rank() of 021", x.rank(), 1);
        x.swap(0, 1);
        due("rank() of 120", x.rank(), 3);
        x.swap(1, 2);
        due("rank() of 210", x.rank(), 5);
        x = at("Ml00CSwQ01");
        due("rank() of 012", x.rank(), NONE);
        x.swap(1, 2);
        due("rank() of 021", x.rank(), 0);
        x.swap(0, 1);
        due("rank() of 120", x.rank(), 1);
        due("rank() of nobody", new NoWifeBeside().rank(), 0);
        x = at("Mr00CCCSm");
        x.take(5039);
        seated("the last", x, "6543210");
        due("rank()", x.rank(), 5039);
    }

    private static void promise13() {
        promise = 13;
        NoWifeBeside x = at("Ml00CSwQ01");
        int[][] want = {{0, 2, 1}, {1, 2, 0}};
        for (int rank = 0; rank < 2; rank++) {
            for (int c = 0; c < 3; c++) {
                due("nth(" + rank + ", " + c + ")", x.nth(rank, c), want[rank][c]);
            }
        }
        for (int rank : new int[] {-1, 2, 6, LEAST, MOST}) {
            due("nth(" + rank + ", 0)", x.nth(rank, 0), OUTSIDE);
            due("nth(" + rank + ", 3)", x.nth(rank, 3), UNKNOWN);
        }
        for (int no : NO_PERSONS) {
            due("nth(0, " + no + ")", x.nth(0, no), UNKNOWN);
        }
        due("nobody moved", x.count(6), 0);
        due("nth(0, 0) of none", at("Mr01C").nth(0, 0), OUTSIDE);
    }

    private static void wrongAt(String text, int want) {
        due("wrong() of " + text, at(text).wrong(), want);
    }

    private static void promise14() {
        promise = 14;
        wrongAt("Ml00", NONE);
        wrongAt("Ml00CSwQ01", 0);
        wrongAt("Ml00CSwQ12", 1);
        wrongAt("Ml00CSwQ02", NONE);
        wrongAt("Mr00CSwQ02", 0);
        wrongAt("Ml00CSwSmT03", 0);
        wrongAt("Mr00CSwSmT03", NONE);
        wrongAt("Ml00CSwSmT13", 1);
        wrongAt("Ml00CSwSmT12", NONE);
        wrongAt("Ml10SwSmSm", 1);
        wrongAt("Ml00SwSmSm", NONE);
        wrongAt("Ml01SmC", 1);
        wrongAt("Ml00SmC", NONE);
        wrongAt("Ml10CSw", NONE);
        wrongAt("Mr10CSw", 0);
        NoWifeBeside x = at("Ml00CSwSmT03");
        x.swap(0, 1);
        due("wrong() of 1023", x.wrong(), 1);
        x.take(0);
        due("wrong() of a lawful one", x.wrong(), NONE);
    }

    private static void promise15() {
        promise = 15;
        BigInteger seed = BigInteger.ZERO;
        BigInteger factor = new BigInteger("6364136223846793005");
        BigInteger added = new BigInteger("1442695040888963407");
        NoWifeBeside x = at("Mr01CCC");
        for (int k = 0; k < 20; k++) {
            seed = seed.multiply(factor).add(added).mod(BigInteger.ONE.shiftLeft(64));
            int rank = seed.shiftRight(33).mod(BigInteger.valueOf(192)).intValue();
            due("draw() number " + k, x.draw(), rank);
            due("rank()", x.rank(), rank);
            due("count(6)", x.count(6), Math.min(k + 1, 16));
            for (int c = 0; c < 6; c++) {
                due("chair(" + c + ")", x.chair(c), x.nth(rank, c));
            }
        }
        due("the seed", x.seed(5), seed.longValue());
        x = at("Mr01C");
        x.seed(5);
        due("draw() of none", x.draw(), STATE);
        due("the seed stays", x.seed(0), 5);
        due("no act", x.count(6), 0);
    }

    private static void promise16() {
        promise = 16;
        NoWifeBeside x = at("Ml00CSw");
        due("take(5)", x.take(5), 2);
        seated("take(5)", x, "210");
        due("take(3)", x.take(3), 2);
        seated("take(3)", x, "120");
        due("take(4)", x.take(4), 3);
        seated("take(4)", x, "201");
        due("take(4) again", x.take(4), 0);
        due("acts", x.count(6), 4);
        for (int rank : new int[] {-1, 6, LEAST, MOST}) {
            due("take(" + rank + ")", x.take(rank), OUTSIDE);
        }
        due("acts", x.count(6), 4);
        due("take(0) of none", at("Mr01C").take(0), OUTSIDE);
        due("take(0) of nobody", new NoWifeBeside().take(0), 0);
    }

    private static void promise17() {
        promise = 17;
        NoWifeBeside x = at("Ml00CSw");
        due("swap(0, 1)", x.swap(0, 1), 1);
        seated("swap(0, 1)", x, "102");
        due("swap(0, 2)", x.swap(0, 2), 1);
        seated("the persons change chairs", x, "120");
        due("acts", x.count(6), 2);
        for (int no : new int[] {3, -1, 7, 8, LEAST, MOST}) {
            due("swap(0, " + no + ")", x.swap(0, no), UNKNOWN);
            due("swap(" + no + ", 0)", x.swap(no, 0), UNKNOWN);
            due("swap(" + no + ", itself)", x.swap(no, no), UNKNOWN);
        }
        due("swap(1, 1)", x.swap(1, 1), OUTSIDE);
        due("acts", x.count(6), 2);
        x = at("Ml00CSwQ01");
        due("to 021", x.swap(1, 2), 1);
        due("to 201", x.swap(0, 2), 0);
        seated("unlawful, but so", x, "201");
    }

    private static void promise18() {
        promise = 18;
        String[] after = {"", "3102", "2130", "0123", "3102", "2130", "0123", "3102", "2130", "0123"};
        for (int m = 1; m <= 9; m++) {
            NoWifeBeside x = at("Ml00SmSwSmSm");
            due("course(" + m + ")", x.course(m), 1);
            seated("course(" + m + ")", x, after[m]);
            due("an act", x.count(6), 1);
        }
        NoWifeBeside x = at("Ml00SmSwSmSm");
        x.swap(0, 1);
        x.course(1);
        seated("by chairs, not by numbers", x, "1302");
        for (int m : new int[] {0, -1, 10, LEAST, MOST}) {
            due("course(" + m + ")", x.course(m), OUTSIDE);
        }
        due("acts", x.count(6), 2);
        x = at("Ml00SwSw");
        due("course(1) without men", x.course(1), 1);
        seated("no man moves", x, "01");
        due("an act all the same", x.count(6), 1);
        x = at("Ml00SmSwSwSmQ01");
        due("to 3120", x.course(1), 1);
        due("to 0123", x.course(1), 0);
    }

    private static void promise19() {
        promise = 19;
        NoWifeBeside x = at("Ml00SwSwSw");
        due("the first", x.dinner(), 0);
        due("the second", x.dinner(), 2);
        x.take(1);
        due("as 021", x.dinner(), 1);
        due("dined(1, 2)", x.dined(1, 2), 3);
        due("dined(0, 1)", x.dined(0, 1), 2);
        due("dined(0, 2)", x.dined(0, 2), 1);
        due("acts", x.count(6), 4);
        x = at("Mr00CSw");
        due("round", x.dinner(), 0);
        due("round again", x.dinner(), 3);
        due("dined(0, 2)", x.dined(0, 2), 2);
        due("nobody dines", new NoWifeBeside().dinner(), 0);
        due("one dines", at("Mr00Sw").dinner(), 0);
        x = at("Mr00SwSw");
        x.dinner();
        due("two dine once", x.dined(0, 1), 1);
        x = at("Ml00SwSwSw");
        for (int k = 0; k < 99; k++) {
            due("dinner " + k, x.dinner(), k == 0 ? 0 : 2);
        }
        due("dined(0, 1)", x.dined(0, 1), 99);
        due("the hundredth", x.dinner(), FULL);
        due("dined(0, 1)", x.dined(0, 1), 99);
        x.take(1);
        due("only the last pair is full", x.dinner(), FULL);
        due("dined(0, 2)", x.dined(0, 2), 0);
        x.undo();
        x.take(2);
        due("only the first pair is full", x.dinner(), FULL);
        due("dined(0, 2)", x.dined(0, 2), 0);
        due("acts", x.count(6), 16);
        due("undo()", x.undo(), 15);
        due("undo()", x.undo(), 14);
        due("dined(0, 1)", x.dined(0, 1), 98);
        due("room again", x.dinner(), 2);
    }

    private static void promise20() {
        promise = 20;
        NoWifeBeside x = at("Ml00CSw");
        x.swap(0, 1);
        x.dinner();
        x.course(1);
        x.take(5);
        x.draw();
        x.seed(7);
        due("undo() of a draw", x.undo(), 4);
        seated("as taken", x, "210");
        due("the seed is not undone", x.seed(0), 7);
        due("undo() of a take", x.undo(), 3);
        seated("as swapped", x, "102");
        due("undo() of a course", x.undo(), 2);
        due("dined(0, 1)", x.dined(0, 1), 1);
        due("undo() of a dinner", x.undo(), 1);
        due("dined(0, 1)", x.dined(0, 1), 0);
        seated("as swapped", x, "102");
        due("undo() of a swap", x.undo(), 0);
        seated("as told", x, "012");
        due("undo() of nothing", x.undo(), STATE);
        for (int k = 0; k < 17; k++) {
            x.swap(0, k % 2 + 1);
        }
        due("acts", x.count(6), 16);
        for (int k = 15; k >= 0; k--) {
            due("undo()", x.undo(), k);
        }
        seated("the first is forgotten", x, "102");
        due("undo()", x.undo(), STATE);
        x.dinner();
        x.swap(0, 2);
        x.dinner();
        due("dined(1, 2)", x.dined(1, 2), 1);
        due("dined(0, 2)", x.dined(0, 2), 2);
        x.undo();
        x.undo();
        due("dined(1, 2)", x.dined(1, 2), 0);
        due("dined(0, 2)", x.dined(0, 2), 1);
        due("dined(0, 1)", x.dined(0, 1), 1);
        x = at("Ml00C");
        x.dinner();
        due("undo() of a dinner, the only act", x.undo(), 0);
        due("dined(0, 1)", x.dined(0, 1), 0);
        for (int k = 0; k < 12; k++) {
            x.dinner();
            x.swap(0, 1);
        }
        x.dinner();
        for (int k = 15; k >= 0; k--) {
            x.undo();
            due("dined(0, 1)", x.dined(0, 1), 13 - (17 - k) / 2);
        }
    }

    private static void promise21() {
        promise = 21;
        NoWifeBeside x = at("Mr11CCC");
        due("good() as told", x.good(), 1);
        due("good() is no act", x.count(6), 0);
        due("course(1)", x.course(1), 1);
        due("good() of a lawful one", x.good(), 0);
        due("course(1)", x.course(1), 0);
        due("good() of an unlawful one", x.good(), 1);
        due("three men", at("Ml00SmSmSm").good(), 2);
        due("seven men", at("Mr00SmSmSmSmSmSmSm").good(), 6);
        due("one man", at("Ml00SwSm").good(), 0);
        due("no man", at("Ml00Sw").good(), 0);
        due("nobody", new NoWifeBeside().good(), 0);
    }

    private static void best(String text, int worth, String seating) {
        NoWifeBeside x = at(text);
        due("worthOf(true) of " + text, x.worthOf(true), worth);
        for (int c = 0; c < seating.length(); c++) {
            due("bestAt(" + c + ") of " + text, x.bestAt(c), seating.charAt(c) - '0');
        }
        due("no act", x.count(6), 0);
    }

    private static void promises22And23() {
        promise = 22;
        NoWifeBeside x = at("Ml00CSwW015W103W029");
        due("worthOf(false) of 012", x.worthOf(false), 8);
        x.swap(0, 1);
        due("worthOf(false) of 102", x.worthOf(false), 17);
        due("worthOf(false) round", at("Mr00CSwW015W103W029").worthOf(false), 17);
        due("worthOf(false) of two", at("Mr00CW015W103").worthOf(false), 8);
        due("bestAt(0), the first that is asked", at("Ml00CSwW015W103W029").bestAt(0), 1);
        best("Ml00CSwW015W103W029", 17, "102");
        best("Ml00CSwQ01W015W103W029", 9, "021");
        best("Ml00CSw", 0, "012");
        best("Mr00CSwW015W103W029", 17, "012");
        promise = 23;
        x = at("Mr00CSwQ01W014");
        due("worthOf(false) of an unlawful one", x.worthOf(false), 4);
        due("worthOf(true) of none", x.worthOf(true), NONE);
        due("bestAt(0) of none", x.bestAt(0), NONE);
        due("bestAt(3) of none", x.bestAt(3), UNKNOWN);
        for (int no : NO_PERSONS) {
            due("bestAt(" + no + ")", x.bestAt(no), UNKNOWN);
        }
    }

    private static void promises24And25() {
        promise = 24;
        NoWifeBeside x = at("Ml00CSw");
        due("few()", x.few(), 0);
        due("fewAt(1)", x.fewAt(1), 1);
        x.dinner();
        due("few()", x.few(), 1);
        promise = 25;
        due("fewAt(0)", x.fewAt(0), 0);
        due("fewAt(1)", x.fewAt(1), 2);
        due("fewAt(2)", x.fewAt(2), 1);
        x.dinner();
        due("few() after two", x.few(), 2);
        x.take(1);
        x.dinner();
        due("few() of 102", x.few(), 3);
        due("fewAt(0)", x.fewAt(0), 1);
        due("fewAt(1)", x.fewAt(1), 0);
        x.undo();
        due("few() undone", x.few(), 2);
        due("fewAt(0)", x.fewAt(0), 0);
        due("fewAt(3)", x.fewAt(3), UNKNOWN);
        for (int no : NO_PERSONS) {
            due("fewAt(" + no + ")", x.fewAt(no), UNKNOWN);
        }
        due("fewAt(1), the first that is asked", at("Ml00CSwQ01").fewAt(1), 2);
        x = at("Mr00CSwQ01");
        due("few() of none", x.few(), NONE);
        due("fewAt(0) of none", x.fewAt(0), NONE);
        due("fewAt(3) of none", x.fewAt(3), UNKNOWN);
    }

    private static void promise26() {
        promise = 26;
        NoWifeBeside x = at("Ml00CSw");
        for (int slot : new int[] {-1, 2, LEAST, MOST}) {
            due("changes(" + slot + ")", x.changes(slot), UNKNOWN);
        }
        due("changes(0)", x.changes(0), STATE);
        due("changes(1)", x.changes(1), STATE);
        x.keep(1);
        due("changes(0)", x.changes(0), STATE);
        due("changes(1) from there", x.changes(1), 0);
        x.swap(0, 1);
        due("changes(1) from 102", x.changes(1), 1);
        x.swap(0, 2);
        due("changes(1) from 120", x.changes(1), 2);
        due("no act", x.count(6), 2);
        x = at("Ml00CCC");
        x.keep(0);
        x.course(1);
        x.swap(0, 2);
        x.swap(2, 4);
        due("two rings of three", x.changes(0), 4);
        x.swap(4, 5);
        due("one ring of six", x.changes(0), 5);
        x = at("Ml00CCCSm");
        x.keep(0);
        due("seven people", x.changes(0), STATE);
        due("seven people, no slot", x.changes(2), UNKNOWN);
        x = new NoWifeBeside();
        x.keep(0);
        due("nobody", x.changes(0), 0);
    }

    private static void promise26ByLaw() {
        NoWifeBeside x = at("Ml00CSwQ01");
        x.keep(0);
        x.take(0);
        due("021 to 012, which is unlawful", x.changes(0), 1);
        x.swap(0, 1);
        due("120 to 012 over 021", x.changes(0), 2);
        due("120 to 012 over 021 again", x.changes(0), 2);
        x.again(0);
        x.swap(0, 1);
        due("102 to 012, both unlawful", x.changes(0), 1);
        x.swap(0, 2);
        seated("an unlawful one", x, "120");
        x = at("Ml00CSwQ01");
        x.swap(0, 2);
        x.keep(1);
        x.undo();
        x.swap(0, 1);
        due("102 to 210 over 120", x.changes(1), 2);
        due("102 to 210 over 120 again", x.changes(1), 2);
        x = at("Mr00CSwQ01");
        x.keep(0);
        x.swap(0, 1);
        due("102 to 012 where nothing is lawful", x.changes(0), 1);
        x.swap(0, 2);
        due("120 to 012 where nothing is lawful", x.changes(0), NONE);
        x = at("Mr11CCC");
        x.take(0);
        x.keep(0);
        x.take(1);
        due("lawful ones that no swap joins", x.changes(0), NONE);
        due("changes(0) keeps what is kept", x.again(0), 1);
        due("rank()", x.rank(), 0);
    }

    private static void promises27And28() {
        promise = 27;
        NoWifeBeside x = at("Ml00CSw");
        for (int k = 1; k <= 8; k++) {
            due("gossip", x.gossip(k % 3, (k + 1) % 3, true), k);
        }
        due("a ninth", x.gossip(0, 1, true), FULL);
        due("of one", x.gossip(1, 1, true), OUTSIDE);
        for (int no : new int[] {3, -1, 7, 8, LEAST, MOST}) {
            due("gossip of " + no, x.gossip(no, 0, true), UNKNOWN);
            due("gossip with " + no, x.gossip(0, no, true), UNKNOWN);
            due("gossip of itself " + no, x.gossip(no, no, true), UNKNOWN);
        }
        due("count(7)", x.count(7), 8);
        promise = 28;
        due("hush()", x.hush(), 8);
        due("hush()", x.hush(), 0);
        due("count(7)", x.count(7), 0);
        due("fits(0)", x.fits(0), 6);
        promise = 27;
        due("gossip", x.gossip(1, 0, false), 1);
        due("fits(0)", x.fits(0), 2);
    }

    private static void promises29And30() {
        promise = 29;
        NoWifeBeside x = at("Ml00CSw");
        due("fits(0) without gossip", x.fits(0), 6);
        x.gossip(1, 0, true);
        due("fits(0)", x.fits(0), 4);
        due("fits(1)", x.fits(1), 6);
        promise = 30;
        due("sat(0, 0)", x.sat(0, 0), 7);
        due("sat(2, 0)", x.sat(2, 0), 5);
        due("sat(2, 1)", x.sat(2, 1), 7);
        promise = 29;
        x.gossip(0, 2, false);
        due("fits(0) of two", x.fits(0), 2);
        due("fits(1) of two", x.fits(1), 4);
        promise = 30;
        due("sat(0, 0)", x.sat(0, 0), 5);
        due("sat(1, 0)", x.sat(1, 0), 2);
        due("sat(1, 1)", x.sat(1, 1), 7);
        due("sat(2, 1)", x.sat(2, 1), 5);
        for (int l : new int[] {-1, 2, LEAST, MOST}) {
            due("fits(" + l + ")", x.fits(l), OUTSIDE);
            due("sat(0, " + l + ")", x.sat(0, l), OUTSIDE);
            due("sat(3, " + l + ")", x.sat(3, l), UNKNOWN);
        }
        for (int no : NO_PERSONS) {
            due("sat(" + no + ", 0)", x.sat(no, 0), UNKNOWN);
        }
        due("sat(2, 0), the first that is asked", at("Ml00CSwQ01").sat(2, 0), 2);
        promise = 29;
        retell(x, "Ml00SwSw");
        due("one of two is gone", x.fits(0), 2);
        x.hush();
        x.gossip(0, 1, false);
        x.gossip(0, 1, false);
        due("the same twice is false twice", x.fits(1), 0);
        retell(x, "Ml00Sw");
        due("nobody to gossip of", x.fits(0), 1);
        due("count(7)", x.count(7), 2);
        retell(x, "Ml00CSw");
        due("they are back", x.fits(0), 2);
        due("sat(2, 0)", x.sat(2, 0), 2);
        x.gossip(0, 1, true);
        due("one of them is false", x.fits(0), 0);
        due("two or one", x.fits(1), 2);
        due("sat(0, 0)", x.sat(0, 0), 0);
    }

    private static void promise31() {
        promise = 31;
        NoWifeBeside x = new NoWifeBeside();
        due("seed", x.seed(Long.MIN_VALUE), 0);
        due("seed", x.seed(Long.MAX_VALUE), Long.MIN_VALUE);
        due("seed", x.seed(-1), Long.MAX_VALUE);
        x.draw();
        due("seed", x.seed(0), 1442695040888963407L - 6364136223846793005L);
        due("no act of its own", x.count(6), 1);
    }

    private static void promises32And33() {
        promise = 32;
        NoWifeBeside x = at("Ml00CSwQ01");
        for (int slot : new int[] {-1, 2, LEAST, MOST}) {
            due("keep(" + slot + ")", x.keep(slot), UNKNOWN);
            due("again(" + slot + ")", x.again(slot), UNKNOWN);
        }
        due("keep(0) of an unlawful one", x.keep(0), 0);
        x.dinner();
        x.take(1);
        x.dinner();
        due("keep(1) of a lawful one", x.keep(1), 1);
        due("acts stay", x.count(6), 3);
        x.dinner();
        due("dined(1, 2)", x.dined(1, 2), 3);
        promise = 33;
        due("again(0)", x.again(0), 0);
        seated("as kept in 0", x, "012");
        due("dined(1, 2)", x.dined(1, 2), 0);
        due("no acts", x.count(6), 0);
        due("undo()", x.undo(), STATE);
        x.dinner();
        due("again(1)", x.again(1), 1);
        seated("as kept in 1", x, "120");
        due("dined(1, 2)", x.dined(1, 2), 2);
        due("dined(0, 1)", x.dined(0, 1), 1);
        due("dined(0, 2)", x.dined(0, 2), 1);
        due("no acts", x.count(6), 0);
        x.dinner();
        due("again(1) once more", x.again(1), 1);
        due("dined(1, 2)", x.dined(1, 2), 2);
        x.again(0);
        due("keep(1) over it", x.keep(1), 0);
        x.take(0);
        due("again(1)", x.again(1), 0);
        due("dined(1, 2)", x.dined(1, 2), 0);
        x = at("Ml00C");
        x.keep(0);
        due("again(1) where none were kept", x.again(1), STATE);
    }

    private static void promise34() {
        promise = 34;
        NoWifeBeside x = at("Mr01CCSwQ01");
        x.swap(0, 1);
        x.gossip(0, 1, true);
        x.gossip(0, 2, true);
        int[] want = {11, 5, 3, 1, 0, 1, 1, 2, 0};
        for (int what = 0; what < 9; what++) {
            due("count(" + what + ")", x.count(what), want[what]);
        }
        for (int what : new int[] {-1, 9, LEAST, MOST}) {
            due("count(" + what + ")", x.count(what), OUTSIDE);
        }
        x.take(0);
        due("count(8) of a lawful one", x.count(8), 1);
        x = at("Ml10Sm");
        due("long", x.count(3), 0);
        due("by turns", x.count(4), 1);
        due("not apart", x.count(5), 0);
        due("women", x.count(2), 0);
    }

    private static void refusedChangesNothing() {
        promise = 0;
        NoWifeBeside x = at("Mr01CCSwQ02T13W019");
        x.take(1);
        x.dinner();
        x.keep(0);
        x.swap(0, 4);
        x.gossip(0, 1, true);
        x.seed(99);
        String before = all(x);
        type(x, "Q");
        due("party()", x.party(), STATE);
        x.wipe();
        type(x, "Mr01CCSwQ02T13W019");
        x.write(9, 1);
        x.write(0, 1);
        x.nth(5040, 0);
        x.nth(0, 9);
        x.take(5040);
        x.swap(5, 0);
        x.swap(0, 0);
        x.course(0);
        x.course(10);
        x.changes(1);
        x.changes(2);
        x.gossip(5, 0, true);
        x.gossip(0, 0, true);
        x.fits(2);
        x.sat(0, 2);
        x.keep(2);
        x.again(1);
        x.again(-1);
        x.count(9);
        x.person(9, 9);
        due("all is as it was", all(x).equals(before) ? 1 : 0, 1);
    }
}
