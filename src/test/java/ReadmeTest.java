import java.io.StringWriter;
import java.net.URI;
import java.net.URL;
import java.net.URLClassLoader;
import java.nio.file.Files;
import java.nio.file.Path;
import java.util.ArrayList;
import java.util.List;
import java.util.Map;
import java.util.Set;
import java.util.TreeMap;
import java.util.TreeSet;
import java.util.regex.Matcher;
import java.util.regex.Pattern;
import javax.tools.JavaCompiler;
import javax.tools.JavaFileObject;
import javax.tools.SimpleJavaFileObject;
import javax.tools.ToolProvider;

/**
 * The calls that README.md shows, with the answers that it says. Each of its Java blocks is compiled as it stands
 * there; a call's answer is the number, or the constant, behind it.
 */
public final class ReadmeTest {
    private static final Path README = Path.of("README.md");
    private static final Pattern ANSWERED = Pattern.compile("(table\\.(\\w+)\\(.*\\));\\s+// (-?\\d+|[A-Z]+)(:.*)?");
    private static final Pattern SEATED = Pattern.compile("\\bas in (\\d+)\\b");
    private static final Pattern WRITTEN = Pattern.compile("table\\.write\\((\\d), 0x([0-9A-F]+)L\\);.*\"(.*)\".*");
    private static final Pattern CONSTANT = Pattern.compile("\\| `([A-Z]+)` \\| (-\\d+) \\|.*");
    private static final Map<String, Integer> NUMBERS = Map.of("UNKNOWN", NoWifeBeside.UNKNOWN,
        "OUTSIDE", NoWifeBeside.OUTSIDE, "STATE", NoWifeBeside.STATE, "FULL", NoWifeBeside.FULL,
        "NONE", NoWifeBeside.NONE);
    /** What the page must speak of. */
    private static final String[] HEADINGS = {
        "A text told and taken", "The seatings counted and taken", "Acts and undoing", "What two gossips told",
        "Keeping and going on", "What a refused call answers"};

    private static int wrong = 0;
    private static int asked = 0;

    public static void main(String[] args) throws Exception {
        List<String> lines = Files.readAllLines(README);
        headings(lines);
        constants(lines);
        Map<Integer, String> shown = new TreeMap<>();
        String source = sourceOf(lines, shown);
        everyCallIsShown(shown);
        everyTestIsNamed(lines);
        run(source);
        System.out.println(asked + " answers of README.md, " + wrong + " not as due");
        if (wrong > 0 || asked == 0) {
            System.exit(1);
        }
    }

    private static void fail(String what) {
        wrong++;
        System.out.println("README.md: " + what);
    }

    /** The generated class asks here. */
    public static void due(int line, String call, long got, long want) {
        asked++;
        if (got != want) {
            fail("line " + line + ": " + call + " answered " + got + ", the page says " + want);
        }
    }

    /** So does it where the page says how they sit. */
    public static void seated(int line, NoWifeBeside table, String as) {
        due(line, "how many sit as in " + as, table.count(1), as.length());
        for (int c = 0; c < as.length(); c++) {
            due(line, "chair(" + c + ") of those who sit as in " + as, table.chair(c), as.charAt(c) - '0');
        }
    }

    // ---- what stands on the page

    private static void headings(List<String> lines) {
        int from = 0;
        for (String heading : HEADINGS) {
            int at = lines.indexOf("### " + heading);
            if (at < from) {
                fail("no heading '" + heading + "' in its place");
            } else {
                from = at;
            }
        }
    }

    private static void constants(List<String> lines) {
        Set<String> told = new TreeSet<>();
        for (String line : lines) {
            Matcher row = CONSTANT.matcher(line);
            if (row.matches()) {
                told.add(row.group(1));
                due(lines.indexOf(line) + 1, row.group(1), NUMBERS.getOrDefault(row.group(1), 0),
                    Integer.parseInt(row.group(2)));
            }
        }
        if (!told.equals(NUMBERS.keySet())) {
            fail("the constants told are " + told);
        }
    }

    private static void everyCallIsShown(Map<Integer, String> shown) {
        for (java.lang.reflect.Method method : NoWifeBeside.class.getDeclaredMethods()) {
            boolean open = java.lang.reflect.Modifier.isPublic(method.getModifiers());
            if (open && !shown.containsValue(method.getName())) {
                fail("no call of " + method.getName() + " is shown");
            }
        }
    }

    private static void everyTestIsNamed(List<String> lines) throws Exception {
        String page = String.join("\n", lines);
        try (var files = Files.list(Path.of("src/test/java"))) {
            for (Path file : files.toList()) {
                String name = file.getFileName().toString().replace(".java", "");
                if (!page.contains("`" + name + "`")) {
                    fail("the page does not say what " + name + " is");
                }
            }
        }
    }

    // ---- the blocks as Java

    /** One class with a method for each Java block; `shown` gets the name of each answered call, by its line. */
    private static String sourceOf(List<String> lines, Map<Integer, String> shown) {
        StringBuilder methods = new StringBuilder();
        StringBuilder calls = new StringBuilder();
        boolean inside = false;
        for (int k = 0; k < lines.size(); k++) {
            String line = lines.get(k);
            if (!inside && line.equals("```java")) {
                inside = true;
                methods.append("static void block").append(k).append("() {\n");
                calls.append("block").append(k).append("();\n");
            } else if (inside && line.equals("```")) {
                inside = false;
                methods.append("}\n");
            } else if (inside) {
                methods.append(statement(k + 1, line, shown)).append('\n');
            }
        }
        if (inside) {
            fail("a Java block has no end");
        }
        return "public final class ReadmeCalls {\n" + methods + "public static void go() {\n" + calls + "}\n}\n";
    }

    private static String statement(int number, String line, Map<Integer, String> shown) {
        Matcher answered = ANSWERED.matcher(line);
        if (!answered.matches()) {
            // only a call in a loop may go without an answer, as it has several
            if (line.contains("table.") && !line.startsWith("for (")) {
                fail("line " + number + ": a call without an answer");
            }
            return line;
        }
        asWritten(number, line);
        String answer = answered.group(3);
        if (NUMBERS.containsKey(answer)) {
            answer = "NoWifeBeside." + answer;
        }
        shown.put(number, answered.group(2));
        String call = answered.group(1);
        String due = "ReadmeTest.due(" + number + ", \"" + call + "\", " + call + ", " + answer + ");";
        Matcher seated = SEATED.matcher(line);
        return seated.find() ? due + " ReadmeTest.seated(" + number + ", table, \"" + seated.group(1) + "\");" : due;
    }

    /** Bytes that are shown as a number and as a text must be the same ones. */
    private static void asWritten(int number, String line) {
        Matcher written = WRITTEN.matcher(line);
        if (written.matches()) {
            long v = 0;
            for (char sign : written.group(3).toCharArray()) {
                v = v << 8 | sign;
            }
            due(number, "the length of the text", written.group(3).length(), Integer.parseInt(written.group(1)));
            due(number, "the text", v, Long.parseUnsignedLong(written.group(2), 16));
        } else if (line.contains("write(")) {
            fail("line " + number + ": bytes without their text");
        }
    }

    private static void run(String source) throws Exception {
        Path classes = Files.createTempDirectory("readme");
        JavaCompiler compiler = ToolProvider.getSystemJavaCompiler();
        JavaFileObject file = new Generated(source);
        StringWriter said = new StringWriter();
        List<String> options = new ArrayList<>(List.of("--release", "17", "-d", classes.toString()));
        options.addAll(List.of("-cp", System.getProperty("java.class.path")));
        if (!compiler.getTask(said, null, null, options, null, List.of(file)).call()) {
            fail("its blocks are no Java: " + said);
            return;
        }
        URL[] places = {classes.toUri().toURL()};
        try (URLClassLoader loader = new URLClassLoader(places, ReadmeTest.class.getClassLoader())) {
            loader.loadClass("ReadmeCalls").getMethod("go").invoke(null);
        } finally {
            Files.deleteIfExists(classes.resolve("ReadmeCalls.class"));
            Files.deleteIfExists(classes);
        }
    }

    /** A source that is in no file. */
    private static final class Generated extends SimpleJavaFileObject {
        private final String source;

        Generated(String source) {
            super(URI.create("string:///ReadmeCalls.java"), JavaFileObject.Kind.SOURCE);
            this.source = source;
        }

        @Override
        public CharSequence getCharContent(boolean ignoreErrors) {
            return source;
        }
    }
}
