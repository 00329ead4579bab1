import java.io.IOException;
import java.lang.reflect.Method;
import java.lang.reflect.Modifier;
import java.nio.file.Files;
import java.nio.file.Path;
import java.util.Map;
import java.util.Set;
import java.util.TreeMap;
import java.util.TreeSet;
import java.util.regex.Matcher;
import java.util.regex.Pattern;
import java.util.stream.Stream;

/** README.md: each call of its runs answers what stands behind it; no call, refusal or test is left out. */
public final class ReadmeTest {
    private static final String MAKING = "BoltRing ring = new BoltRing();";
    private static final Pattern CALL =
            Pattern.compile("ring\\.(\\w+)\\(([^()]*)\\);\\s+// -> (-?\\d+|[A-Z]+)(?::.*)?");
    private static final Set<String> REFUSALS = Set.of("UNKNOWN", "OUTSIDE", "NOT", "FULL", "LARGE");
    /** The parts of the page that must have a run. */
    private static final Set<String> PARTS = Set.of("### The joint", "### Drawing", "### Loads",
            "### Misses and readings", "### Orders", "### What a refused call answers",
            "### A fraction is told in two calls");

    private static final Map<String, Method> FACE = new TreeMap<>();
    private static final Set<String> called = new TreeSet<>();
    private static final Set<String> refused = new TreeSet<>();
    private static final Set<String> partsWithRun = new TreeSet<>();
    private static int wrong = 0;

    public static void main(String[] args) throws IOException, ReflectiveOperationException {
        for (Method m : BoltRing.class.getDeclaredMethods()) {
            if (Modifier.isPublic(m.getModifiers())) {
                FACE.put(m.getName(), m);
            }
        }
        String page = Files.readString(Path.of("README.md"));
        runs(page);
        holds("calls that are in no run: " + left(FACE.keySet(), called), called.equals(FACE.keySet()));
        holds("refusals that are in no run: " + left(REFUSALS, refused), refused.equals(REFUSALS));
        holds("parts without a run: " + left(PARTS, partsWithRun), partsWithRun.containsAll(PARTS));
        constantsAreTold(page);
        testsAreTold(page);
        if (wrong != 0) {
            System.exit(1);
        }
    }

    private static void holds(String what, boolean is) {
        if (!is) {
            wrong++;
            System.out.println("README.md: " + what);
        }
    }

    private static Set<String> left(Set<String> all, Set<String> some) {
        Set<String> left = new TreeSet<>(all);
        left.removeAll(some);
        return left;
    }

    /** Does all lines between ```java and ```; each such run makes its own object first. */
    private static void runs(String page) throws ReflectiveOperationException {
        String part = "";
        boolean inside = false;
        BoltRing ring = null;
        for (String line : page.split("\n")) {
            if (line.startsWith("```")) {
                inside = !inside;
                ring = null;
                holds("signs of another kind than java: " + line, !inside || line.equals("```java"));
            } else if (!inside) {
                part = line.startsWith("#") ? line : part;
            } else if (line.equals(MAKING)) {
                ring = new BoltRing();
            } else {
                partsWithRun.add(part);
                answers(ring, line);
            }
        }
        holds("a run that does not end", !inside);
    }

    private static void answers(BoltRing ring, String line) throws ReflectiveOperationException {
        Matcher call = CALL.matcher(line);
        boolean sound = call.matches() && ring != null && FACE.containsKey(call.group(1));
        holds("no call with its answer: " + line, sound);
        if (!sound) {
            return;
        }
        Method method = FACE.get(call.group(1));
        String[] told = call.group(2).isEmpty() ? new String[0] : call.group(2).split(", ");
        holds("not as many numbers as it takes: " + line, told.length == method.getParameterCount());
        if (told.length != method.getParameterCount()) {
            return;
        }
        Object[] arguments = new Object[told.length];
        for (int i = 0; i < told.length; i++) {
            arguments[i] = argument(method.getParameterTypes()[i], told[i]);
        }
        long got = ((Number) method.invoke(ring, arguments)).longValue();
        String due = call.group(3);
        holds("it answers " + got + ": " + line, got == (Character.isLetter(due.charAt(0)) ? constant(due) : Long.parseLong(due)));
        called.add(method.getName());
        if (REFUSALS.contains(due)) {
            refused.add(due);
        }
    }

    private static Object argument(Class<?> type, String told) throws ReflectiveOperationException {
        if (type == boolean.class) {
            return Boolean.valueOf(told);
        }
        if (told.startsWith("BoltRing.")) {
            return constant(told.substring("BoltRing.".length()));
        }
        return type == long.class ? (Object) Long.decode(told.replaceAll("L$", "")) : (Object) Integer.valueOf(told);
    }

    private static int constant(String name) throws ReflectiveOperationException {
        return BoltRing.class.getField(name).getInt(null);
    }

    private static void constantsAreTold(String page) throws ReflectiveOperationException {
        for (String name : REFUSALS) {
            holds("the number of " + name, page.contains("| `" + name + "` | " + constant(name) + " |"));
        }
        holds("the number of NONE", page.contains("`NONE` (" + BoltRing.NONE + ")"));
    }

    /** Each test has a row of the table, and each row's test is there. */
    private static void testsAreTold(String page) throws IOException {
        Set<String> rows = new TreeSet<>();
        Matcher row = Pattern.compile("(?m)^\\| `(\\w+Test)` \\| .+ \\|$").matcher(page);
        while (row.find()) {
            rows.add(row.group(1));
        }
        Set<String> tests = new TreeSet<>();
        try (Stream<Path> files = Files.list(Path.of("tests"))) {
            files.map(file -> file.getFileName().toString()).filter(name -> name.endsWith("Test.java"))
                    .forEach(name -> tests.add(name.replace(".java", "")));
        }
        holds("the tests are " + tests + ", told are " + rows, rows.equals(tests));
    }
}
