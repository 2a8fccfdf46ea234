import java.util.Random;

/** Long runs of calls with all kinds of arguments, each answer held against the model's; the runs are the same each time. */
public final class RandomRunsTest {
    private static final int RUNS = 140;
    /** An object has 512 calls; a party that is told last may take some 70 more than this. */
    private static final int CALLS = 440;
    private static final int MOST_SHOWN = 20;
    private static final int[] ODD = {-1, 7, 8, 9, 10, -9, 16, 32, 64, 255, 5040, Integer.MIN_VALUE, Integer.MAX_VALUE};

    private static int wrong = 0;
    private static int calls = 0;

    private final Random random;
    private final int run;
    private final NoWifeBeside it = new NoWifeBeside();
    private final Model model = new Model();

    private RandomRunsTest(int run) {
        this.run = run;
        this.random = new Random(run);
    }

    public static void main(String[] args) {
        for (int run = 0; run < RUNS && wrong < MOST_SHOWN; run++) {
            new RandomRunsTest(run).go();
        }
        System.out.println(calls + " calls in random runs, " + wrong + " answers not as due");
        if (wrong > 0) {
            System.exit(1);
        }
    }

    private void go() {
        int done = calls + CALLS;
        while (calls < done && wrong < MOST_SHOWN) {
            if (random.nextInt(60) == 0) {
                tellAParty();
            } else {
                callOne();
            }
        }
    }

    private void same(String call, long got, long want) {
        calls++;
        if (got != want) {
            wrong++;
            System.out.println("run " + run + ": " + call + " answered " + got + ", due is " + want);
        }
    }

    // ---- texts

    private void tellAParty() {
        same("wipe()", it.wipe(), model.wipe());
        String text = aText();
        int from = 0;
        while (from < text.length()) {
            int n = Math.min(1 + random.nextInt(8), text.length() - from);
            long v = n == 8 ? 0 : random.nextLong() << 8 * n;
            for (int k = 0; k < n; k++) {
                v = n == 8 && k == 0 ? text.charAt(from) : withNext(v, n, k, text.charAt(from + k));
            }
            same("write(" + n + ", " + v + ")", it.write(n, v), model.write(n, v));
            from += n;
        }
        same("fault() of " + text, it.fault(), model.fault());
        same("party() of " + text, it.party(), model.party());
    }

    private static long withNext(long v, int n, int k, char sign) {
        int shift = 8 * (n - 1 - k);
        if (n == 8) {
            return v << 8 | sign;
        }
        return v & ~(255L << shift) | (long) sign << shift;
    }

    private String aText() {
        StringBuilder text = new StringBuilder("M");
        text.append(random.nextBoolean() ? 'r' : 'l').append(random.nextInt(2)).append(random.nextInt(2));
        int most = random.nextInt(4) == 0 ? random.nextInt(8) : 2 + random.nextInt(5);
        int people = 0;
        while (people < most) {
            boolean couple = people + 2 <= most && random.nextInt(3) > 0;
            text.append(couple ? "C" : random.nextBoolean() ? "Sw" : "Sm");
            people += couple ? 2 : 1;
            addRelations(text, people, random.nextInt(5) == 0 ? 2 : 0);
        }
        addRelations(text, people, random.nextInt(8) == 0 ? 14 : random.nextInt(6));
        if (random.nextInt(4) == 0) {
            spoil(text);
        }
        if (text.length() > 64) {
            text.setLength(64);
        }
        return text.toString();
    }

    private void addRelations(StringBuilder text, int people, int parts) {
        for (int k = 0; k < parts && people > 1; k++) {
            int i = random.nextInt(people);
            int j = (i + 1 + random.nextInt(people - 1)) % people;
            String start = text + "QTWW".substring(random.nextInt(4)).substring(0, 1) + i + j;
            String whole = start.charAt(start.length() - 3) == 'W' ? start + (1 + random.nextInt(9)) : start;
            if (Model.read(whole) != null && whole.length() <= 64) {
                text.setLength(0);
                text.append(whole);
            }
        }
    }

    private void spoil(StringBuilder text) {
        String signs = "MrlCSwmQTW0123456789x" + (char) 0 + (char) 200;
        char sign = signs.charAt(random.nextInt(signs.length()));
        int place = random.nextInt(text.length());
        switch (random.nextInt(4)) {
            case 0 -> text.setCharAt(place, sign);
            case 1 -> text.insert(place, sign);
            case 2 -> text.setLength(place);
            default -> text.append("QTW".charAt(random.nextInt(3))).append(random.nextInt(7)).append(random.nextInt(7));
        }
    }

    // ---- calls

    private int small(int below) {
        return random.nextInt(12) == 0 ? ODD[random.nextInt(ODD.length)] : random.nextInt(below);
    }

    private int aPerson() {
        return small(Math.max(1, model.count(1)));
    }

    private int aRank() {
        int many = model.many(false);
        return random.nextInt(8) == 0 ? (random.nextBoolean() ? many : -1) : random.nextInt(many + 1);
    }

    private void callOne() {
        int a = aPerson();
        int b = aPerson();
        boolean yes = random.nextBoolean();
        switch (random.nextInt(37)) {
            case 0 -> same("fault()", it.fault(), model.fault());
            case 1 -> same("person", it.person(a, b), model.person(a, b));
            case 2 -> same("person 5", it.person(a, 5), model.person(a, 5));
            case 3 -> same("chair(" + a + ")", it.chair(a), model.chair(a));
            case 4 -> same("worth", it.worth(a, b), model.worth(a, b));
            case 5 -> same("dined", it.dined(a, b), model.dined(a, b));
            case 6 -> same("many(" + yes + ")", it.many(yes), model.many(yes));
            case 7 -> same("luck(" + yes + ")", it.luck(yes), model.luck(yes));
            case 8, 9 -> same("rank()", it.rank(), model.rank());
            case 10 -> {
                int rank = aRank();
                same("nth(" + rank + ", " + a + ")", it.nth(rank, a), model.nth(rank, a));
            }
            case 11 -> same("wrong()", it.wrong(), model.wrong());
            case 12 -> same("draw()", it.draw(), model.draw());
            case 13 -> {
                int rank = aRank();
                same("take(" + rank + ")", it.take(rank), model.take(rank));
            }
            case 14, 15 -> same("swap(" + a + ", " + b + ")", it.swap(a, b), model.swap(a, b));
            case 16 -> {
                int m = small(11);
                same("course(" + m + ")", it.course(m), model.course(m));
            }
            case 17, 18 -> same("dinner()", it.dinner(), model.dinner());
            case 19 -> same("undo()", it.undo(), model.undo());
            case 20 -> same("good()", it.good(), model.good());
            default -> callAnother(a, b, yes);
        }
    }

    private void callAnother(int a, int b, boolean yes) {
        int slot = small(2);
        int l = small(2);
        int what = small(10);
        switch (random.nextInt(16)) {
            case 0 -> same("worthOf(" + yes + ")", it.worthOf(yes), model.worthOf(yes));
            case 1 -> same("bestAt(" + a + ")", it.bestAt(a), model.bestAt(a));
            case 2 -> same("few()", it.few(), model.few());
            case 3 -> same("fewAt(" + a + ")", it.fewAt(a), model.fewAt(a));
            case 4, 5 -> same("changes(" + slot + ")", it.changes(slot), model.changes(slot));
            case 6, 7 -> same("gossip", it.gossip(a, b, yes), model.gossip(a, b, yes));
            case 8 -> {
                if (random.nextInt(6) == 0) {
                    same("hush()", it.hush(), model.hush());
                }
            }
            case 9 -> same("fits(" + l + ")", it.fits(l), model.fits(l));
            case 10 -> same("sat(" + a + ", " + l + ")", it.sat(a, l), model.sat(a, l));
            case 11 -> {
                long v = random.nextLong();
                same("seed(" + v + ")", it.seed(v), model.seed(v));
            }
            case 12 -> same("keep(" + slot + ")", it.keep(slot), model.keep(slot));
            case 13 -> same("again(" + slot + ")", it.again(slot), model.again(slot));
            case 14 -> same("count(" + what + ")", it.count(what), model.count(what));
            default -> writeAnything();
        }
    }

    private void writeAnything() {
        int n = small(10);
        long v = random.nextLong();
        if (random.nextInt(3) == 0) {
            same("write(" + n + ", " + v + ")", it.write(n, v), model.write(n, v));
        }
    }
}
