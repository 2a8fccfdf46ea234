import java.nio.file.Files;
import java.nio.file.Path;
import java.util.Set;
import java.util.TreeSet;

/**
 * What the tests of boundary cases share. Each answer due stands under a promise's number and the document's own words;
 * words that the document does not have are a fault of the test, so that no label outlives its sentence.
 */
abstract class Sentences {
    static final int UNKNOWN = -1, OUTSIDE = -2, STATE = -3, FULL = -4, NONE = -9;
    static final int LEAST = Integer.MIN_VALUE, MOST = Integer.MAX_VALUE;
    static final int[] NO_SLOTS = {-1, 2, 3, 256, LEAST, MOST};

    private static final Path DOCUMENT = Path.of("../shared/DOC.md");
    private static final int MOST_SHOWN = 40;

    private static int wrong = 0;
    private static int asked = 0;
    private static int sentences = 0;
    private static int promise = 0;
    private static String words = "";
    private static String document = null;
    private static final Set<Integer> PROMISES = new TreeSet<>();

    // ---- what is due

    /** From here on the answers due are those of these words. */
    static void sentence(int number, String said) {
        promise = number;
        words = said;
        sentences++;
        PROMISES.add(number);
        if (!document().contains(plain(said))) {
            fail("the document has no such words");
        }
    }

    private static String document() {
        if (document == null) {
            try {
                document = plain(Files.readString(DOCUMENT));
            } catch (java.io.IOException e) {
                throw new java.io.UncheckedIOException(e);
            }
        }
        return document;
    }

    private static String plain(String said) {
        return said.replaceAll("\\s+", " ");
    }

    static void due(String what, long got, long want) {
        asked++;
        if (got != want) {
            fail(what + " answered " + got + ", due is " + want);
        }
    }

    static void due(String what, String got, String want) {
        asked++;
        if (!got.equals(want)) {
            fail(what + " is " + got + ", due is " + want);
        }
    }

    private static void fail(String what) {
        wrong++;
        if (wrong <= MOST_SHOWN) {
            System.out.println("promise " + promise + " '" + words + "': " + what);
        }
    }

    /** Ends the test; each promise from the first to the last must have had a sentence. */
    static void end(int first, int last) {
        for (int k = first; k <= last; k++) {
            if (!PROMISES.contains(k)) {
                wrong++;
                System.out.println("promise " + k + " has no sentence");
            }
        }
        System.out.println(sentences + " sentences, " + asked + " answers, " + wrong + " not as due");
        if (wrong > 0) {
            System.exit(1);
        }
    }

    // ---- parties

    static void type(NoWifeBeside x, String text) {
        for (char sign : text.toCharArray()) {
            x.write(1, sign);
        }
    }

    static NoWifeBeside typed(String text) {
        NoWifeBeside x = new NoWifeBeside();
        type(x, text);
        return x;
    }

    /** A new object with this party; the text is written eight bytes at a time, as an object has only 512 calls. */
    static NoWifeBeside at(String text) {
        NoWifeBeside x = new NoWifeBeside();
        retell(x, text);
        return x;
    }

    static void retell(NoWifeBeside x, String text) {
        x.wipe();
        for (int from = 0; from < text.length(); from += 8) {
            String some = text.substring(from, Math.min(from + 8, text.length()));
            x.write(some.length(), number(some));
        }
        due("fault() of " + text, x.fault(), NONE);
        x.party();
    }

    static long number(String signs) {
        long v = 0;
        for (char sign : signs.toCharArray()) {
            v = v << 8 | sign;
        }
        return v;
    }

    /** So many single ones at a table, women and men by these signs. */
    static String singles(String start, String sexes) {
        StringBuilder text = new StringBuilder(start);
        for (char sex : sexes.toCharArray()) {
            text.append('S').append(sex);
        }
        return text.toString();
    }

    // ---- what can be seen

    /** Who sits on chairs 0, 1, .. as figures. */
    static String seated(NoWifeBeside x) {
        StringBuilder got = new StringBuilder();
        int people = x.count(1);
        for (int c = 0; c < people; c++) {
            got.append(x.chair(c));
        }
        return got.toString();
    }

    /** How often each two dined together: 0 with 1, 2, .., then 1 with 2, .. */
    static String dinedTogether(NoWifeBeside x) {
        StringBuilder got = new StringBuilder();
        int people = x.count(1);
        for (int i = 0; i < people; i++) {
            for (int j = i + 1; j < people; j++) {
                got.append(got.length() == 0 ? "" : " ").append(x.dined(i, j));
            }
        }
        return got.toString();
    }

    static String bestSeating(NoWifeBeside x) {
        StringBuilder got = new StringBuilder();
        int people = x.count(1);
        for (int c = 0; c < people; c++) {
            got.append(x.bestAt(c));
        }
        return got.toString();
    }

    static String fewSeating(NoWifeBeside x) {
        StringBuilder got = new StringBuilder();
        int people = x.count(1);
        for (int c = 0; c < people; c++) {
            got.append(x.fewAt(c));
        }
        return got.toString();
    }

    /** Brings this party to a seating, by swaps (each is an act). */
    static void seat(NoWifeBeside x, String seating) {
        for (int c = 0; c < seating.length(); c++) {
            int due = seating.charAt(c) - '0';
            int there = x.chair(c);
            if (there != due) {
                x.swap(there, due);
            }
        }
    }

    /** Numbers that no person and no chair of so many people has. */
    static int[] noneOf(int people) {
        return new int[] {people, people + 1, 7, 8, 9, 15, 16, 31, 32, 63, 64, 256, -1, -2, -8, LEAST, MOST};
    }
}
