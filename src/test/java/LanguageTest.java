import java.lang.management.ManagementFactory;
import java.lang.reflect.Constructor;
import java.lang.reflect.Field;
import java.lang.reflect.Method;
import java.lang.reflect.Modifier;
import java.nio.file.Files;
import java.nio.file.Path;
import java.util.ArrayList;
import java.util.HashSet;
import java.util.List;
import java.util.Set;
import java.util.TreeSet;
import java.util.regex.Pattern;

/** The public face, the words that the source never has, and what a run makes; RulesTest has the other rules. */
public final class LanguageTest {
    private static final Path SOURCE = Path.of("src/main/java/NoWifeBeside.java");
    private static final String[] FACE = {
        "int write(int,long)", "int wipe()", "int fault()", "int party()", "int person(int,int)", "int chair(int)",
        "int worth(int,int)", "int dined(int,int)", "int many(boolean)", "int luck(boolean)", "int rank()",
        "int nth(int,int)", "int wrong()", "int draw()", "int take(int)", "int swap(int,int)", "int course(int)",
        "int dinner()", "int undo()", "int good()", "int worthOf(boolean)", "int bestAt(int)", "int few()",
        "int fewAt(int)", "int changes(int)", "int gossip(int,int,boolean)", "int hush()", "int fits(int)",
        "int sat(int,int)", "long seed(long)", "int keep(int)", "int again(int)", "int count(int)"};
    private static final String[] NEVER = {
        "throw", "throws", "try", "catch", "synchronized", "assert", "import", "package", "->", "::", "System",
        "Object", "equals", "hashCode", "toString", "volatile", "transient", "native", "double", "float"};

    private static int wrong = 0;

    public static void main(String[] args) throws Exception {
        face();
        constants();
        nested();
        source();
        whatARunMakes();
        System.out.println(wrong == 0 ? "the rules that can be seen are kept" : wrong + " rules are not kept");
        if (wrong > 0) {
            System.exit(1);
        }
    }

    private static void must(boolean holds, String what) {
        if (!holds) {
            wrong++;
            System.out.println("not so: " + what);
        }
    }

    private static String signature(Method method) {
        StringBuilder types = new StringBuilder();
        for (Class<?> type : method.getParameterTypes()) {
            types.append(types.length() == 0 ? "" : ",").append(type.getSimpleName());
        }
        return method.getReturnType().getSimpleName() + " " + method.getName() + "(" + types + ")";
    }

    private static void face() {
        Class<?> type = NoWifeBeside.class;
        must(Modifier.isPublic(type.getModifiers()) && Modifier.isFinal(type.getModifiers()), "public and final");
        Set<String> open = new TreeSet<>();
        Set<String> openNames = new HashSet<>();
        for (Method method : type.getDeclaredMethods()) {
            if (!Modifier.isPrivate(method.getModifiers())) {
                open.add(signature(method));
                openNames.add(method.getName());
                must(Modifier.isPublic(method.getModifiers()) && !Modifier.isStatic(method.getModifiers()), method + " is public");
            }
        }
        must(open.equals(new TreeSet<>(List.of(FACE))), "the methods are the document's: " + open);
        List<Class<?>> all = new ArrayList<>(List.of(type.getDeclaredClasses()));
        all.add(type);
        for (Class<?> one : all) {
            for (Method method : one.getDeclaredMethods()) {
                boolean own = one == type && Modifier.isPublic(method.getModifiers());
                must(own || !openNames.contains(method.getName()), method + " has a name of its own");
                must(method.getParameterCount() <= 7, method + " has at most seven parameters");
            }
        }
        Constructor<?>[] constructors = type.getDeclaredConstructors();
        must(constructors.length == 1 && Modifier.isPublic(constructors[0].getModifiers())
            && constructors[0].getParameterCount() == 0, "one public constructor");
    }

    private static void constants() {
        Set<String> open = new HashSet<>();
        for (Field field : NoWifeBeside.class.getDeclaredFields()) {
            if (!Modifier.isPrivate(field.getModifiers())) {
                open.add(field.getName());
            }
        }
        must(open.equals(Set.of("UNKNOWN", "OUTSIDE", "STATE", "FULL", "NONE")), "the constants are the document's: " + open);
        must(NoWifeBeside.UNKNOWN == -1 && NoWifeBeside.OUTSIDE == -2 && NoWifeBeside.STATE == -3
            && NoWifeBeside.FULL == -4 && NoWifeBeside.NONE == -9, "their numbers");
    }

    private static void nested() {
        Class<?>[] nested = NoWifeBeside.class.getDeclaredClasses();
        must(nested.length < 12, "at most twelve classes");
        List<Class<?>> all = new ArrayList<>(List.of(nested));
        for (Class<?> one : nested) {
            must(Modifier.isStatic(one.getModifiers()), one + " is static");
            must(!Modifier.isPublic(one.getModifiers()) && !Modifier.isProtected(one.getModifiers()), one + " is hidden");
        }
        all.add(NoWifeBeside.class);
        for (Class<?> one : all) {
            int fields = 0;
            for (Field field : one.getDeclaredFields()) {
                boolean fixed = Modifier.isStatic(field.getModifiers());
                must(!fixed || Modifier.isFinal(field.getModifiers()), field + " is final");
                fields += fixed ? 0 : 1;
            }
            must(fields <= 20, one + " has at most twenty fields");
        }
    }

    private static String code() throws Exception {
        return Files.readString(SOURCE).replaceAll("(?s)/\\*.*?\\*/", "").replaceAll("//[^\n]*", "");
    }

    private static void source() throws Exception {
        String code = code();
        for (String word : NEVER) {
            String pattern = Character.isLetter(word.charAt(0)) ? "\\b" + word + "\\b" : Pattern.quote(word);
            must(!Pattern.compile(pattern).matcher(code).find(), "no " + word);
        }
    }

    /** All calls of a run live in one room, so an object may make little, and its calls next to nothing. */
    private static void whatARunMakes() {
        com.sun.management.ThreadMXBean threads = (com.sun.management.ThreadMXBean) ManagementFactory.getThreadMXBean();
        dearRun();
        long before = threads.getCurrentThreadAllocatedBytes();
        new NoWifeBeside();
        long made = threads.getCurrentThreadAllocatedBytes() - before;
        must(made < 8_000, "a new object is small: " + made + " bytes");
        before = threads.getCurrentThreadAllocatedBytes();
        dearRun();
        made = threads.getCurrentThreadAllocatedBytes() - before;
        must(made < 60_000, "a run of the dearest calls makes little: " + made + " bytes");
    }

    private static void dearRun() {
        NoWifeBeside x = new NoWifeBeside();
        for (char sign : new char[] {'M', 'r', '0', '0', 'C', 'C', 'C'}) {
            x.write(1, sign);
        }
        x.party();
        x.keep(0);
        for (int k = 0; k < 100; k++) {
            x.draw();
            x.changes(0);
        }
        x.write(2, 'S' << 8 | 'w');
        for (int k = 0; k < 40; k++) {
            x.fault();
            x.party();
            x.draw();
            x.swap(0, 1);
            x.dinner();
            x.few();
            x.sat(0, 1);
            x.keep(1);
            x.again(1);
        }
    }
}
