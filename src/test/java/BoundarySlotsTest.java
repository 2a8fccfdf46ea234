/** Promises 32 to 34, sentence by sentence: slots, what is kept in them, and counts. */
public final class BoundarySlotsTest extends Sentences {
    public static void main(String[] args) {
        keepRefused();
        keeps();
        keptIsNotTouched();
        againRefused();
        goesOn();
        counts();
        countsRefused();
        end(32, 34);
    }

    // ---- promise 32

    private static void keepRefused() {
        sentence(32, "SLOTS 0 to 1 keep THE SEATING, who DINED together");
        NoWifeBeside x = at("Ml00CSw");
        for (int slot : NO_SLOTS) {
            due("keep(" + slot + ")", x.keep(slot), UNKNOWN);
        }
        due("nothing is kept in 0", x.again(0), STATE);
        due("nothing is kept in 1", x.again(1), STATE);
        x.keep(0);
        seat(x, "210");
        x.keep(1);
        seat(x, "120");
        for (int slot : NO_SLOTS) {
            due("keep(" + slot + ")", x.keep(slot), UNKNOWN);
        }
        x.again(0);
        due("in 0", seated(x), "012");
        x.again(1);
        due("in 1", seated(x), "210");
    }

    private static void keeps() {
        sentence(32, "They are kept: 1 if THE SEATING is LAWFUL, 0. UNKNOWN.");
        for (int slot = 0; slot < 2; slot++) {
            NoWifeBeside x = at("Ml00CSwQ01");
            due("an unlawful one", x.keep(slot), 0);
            x.take(0);
            due("a lawful one over it", x.keep(slot), 1);
            x.dinner();
            due("acts stay", x.count(6), 2);
            due("an undo behind it", x.undo(), 1);
            due("and one more", x.undo(), 0);
            due("the other one is empty", x.again(1 - slot), STATE);
            due("again(" + slot + ")", x.again(slot), 1);
            due("seated", seated(x), "021");
            due("nobody", new NoWifeBeside().keep(slot), 1);
            due("where nothing is lawful", at("Mr11C").keep(slot), 0);
        }
    }

    private static void keptIsNotTouched() {
        sentence(32, "keep THE SEATING, who DINED together");
        for (int slot = 0; slot < 2; slot++) {
            NoWifeBeside x = at("Ml00CSw");
            x.dinner();
            x.swap(0, 2);
            x.keep(slot);
            x.dinner();
            x.swap(0, 1);
            x.dinner();
            x.keep(1 - slot);
            x.undo();
            due("again(" + slot + ")", x.again(slot), 1);
            due("seated", seated(x), "210");
            due("dined", dinedTogether(x), "1 0 1");
            x.dinner();
            x.swap(0, 1);
            x.again(slot);
            due("seated again", seated(x), "210");
            due("dined again", dinedTogether(x), "1 0 1");
            x.again(1 - slot);
            due("seated by the other", seated(x), "201");
            due("dined by the other", dinedTogether(x), "3 1 2");
            due("few() by the other", x.few(), 3);
        }
    }

    // ---- promise 33

    private static void againRefused() {
        sentence(33, "UNKNOWN; STATE: none were kept.");
        NoWifeBeside x = at("Ml00CSw");
        seat(x, "210");
        for (int slot : NO_SLOTS) {
            due("again(" + slot + ")", x.again(slot), UNKNOWN);
        }
        due("again(0)", x.again(0), STATE);
        due("again(1)", x.again(1), STATE);
        due("acts stay", x.count(6), 1);
        due("seated", seated(x), "210");
        x.keep(1);
        due("again(0)", x.again(0), STATE);
        for (int slot : NO_SLOTS) {
            due("again(" + slot + ")", x.again(slot), UNKNOWN);
        }
        due("acts stay", x.count(6), 1);
        due("again(1)", x.again(1), 1);
        x.keep(0);
        x.party();
        due("none are kept behind a new party", x.again(0), STATE);
        due("none are kept behind a new party", x.again(1), STATE);
        due("of a new object", new NoWifeBeside().again(0), STATE);
        due("of a new object", new NoWifeBeside().again(1), STATE);
    }

    private static void goesOn() {
        sentence(33, "They are as they were kept: 1 if THE SEATING is LAWFUL, 0.");
        NoWifeBeside x = at("Ml00CSwQ01");
        x.keep(0);
        x.take(1);
        x.keep(1);
        due("an unlawful one", x.again(0), 0);
        due("seated", seated(x), "012");
        due("a lawful one", x.again(1), 1);
        due("seated", seated(x), "120");
        due("the same once more", x.again(1), 1);
        sentence(33, "(THE ROW of ACTS is empty when one goes on)");
        for (int acts : new int[] {0, 1, 15, 16, 17, 40}) {
            for (int k = 0; k < acts; k++) {
                x.swap(0, 1 + k % 2);
            }
            due("again(0)", x.again(0), 0);
            due("acts", x.count(6), 0);
            due("undo()", x.undo(), STATE);
            due("seated", seated(x), "012");
        }
        x.swap(0, 1);
        due("the row begins anew", x.undo(), 0);
        due("and goes back to what was kept", seated(x), "012");
        sentence(33, "SLOTS 0 to 1 keep THE SEATING, who DINED together");
        x.gossip(0, 1, true);
        x.seed(7);
        x.again(0);
        due("gossip is not kept", x.count(7), 1);
        due("nor the seed", x.seed(0), 7);
        due("nor the text", x.count(0), 10);
    }

    // ---- promise 34

    private static void counts() {
        sentence(34, "0 bytes of THE TEXT, 1 PEOPLE, 2 women, 3 1 if the table is ROUND, "
            + "4 1 if it is BY TURNS, 5 1 if it is APART");
        for (int bits = 0; bits < 8; bits++) {
            String start = "M" + (bits / 4 == 1 ? "r" : "l") + bits / 2 % 2 + bits % 2;
            for (int people = 0; people <= 7; people++) {
                NoWifeBeside x = at(singles(start, "wwwmmww".substring(0, people)));
                due("bytes", x.count(0), 4 + 2 * people);
                due("people", x.count(1), people);
                due("women", x.count(2), people < 4 ? people : people < 6 ? 3 : people - 2);
                due("round", x.count(3), bits / 4);
                due("by turns", x.count(4), bits / 2 % 2);
                due("apart", x.count(5), bits % 2);
            }
        }
        NoWifeBeside x = at("Mr10CCC");
        due("women of couples", x.count(2), 3);
        x.wipe();
        due("no bytes", x.count(0), 0);
        due("but people", x.count(1), 6);
        type(x, "Ml01");
        due("it is not the party yet", x.count(3) * 100 + x.count(4) * 10 + x.count(5), 110);
        sentence(34, "6 ACTS in the row, 7 GOSSIP, 8 1 if THE SEATING is LAWFUL");
        x = at("Ml00CSwQ01");
        due("unlawful", x.count(8), 0);
        x.swap(1, 2);
        due("lawful", x.count(8), 1);
        for (int k = 1; k < 20; k++) {
            due("acts", x.count(6), Math.min(k, 16));
            x.dinner();
        }
        for (int k = 0; k < 10; k++) {
            due("gossip", x.count(7), Math.min(k, 8));
            x.gossip(0, 1, true);
        }
        due("nobody is lawful", at("Mr11").count(8), 1);
        due("one is lawful", at("Mr11Sm").count(8), 1);
        due("two of a couple are not", at("Mr11C").count(8), 0);
    }

    private static void countsRefused() {
        sentence(34, "8 1 if THE SEATING is LAWFUL. OUTSIDE.");
        for (String party : new String[] {"Ml00", "Mr11CCCSw"}) {
            NoWifeBeside x = at(party);
            for (int what : new int[] {9, 10, -1, -9, 256, LEAST, MOST}) {
                due("count(" + what + ")", x.count(what), OUTSIDE);
            }
        }
    }
}
