import java.io.IOException;
import java.lang.reflect.InvocationTargetException;
import java.lang.reflect.Method;
import java.lang.reflect.Modifier;
import java.nio.file.Files;
import java.nio.file.Path;
import java.util.Arrays;
import java.util.HashMap;
import java.util.List;
import java.util.Map;
import java.util.Random;
import java.util.Set;
import java.util.TreeSet;
import java.util.function.Supplier;
import java.util.regex.Matcher;
import java.util.regex.Pattern;

/** What README.md says: its example, and of each call what it may answer when it is refused. */
public final class ReadmeTest {
    private static final Due DUE = new Due();
    private static final Pattern ROW = Pattern.compile("(?m)^\\| `(\\w+)\\(([^)]*)\\)` \\|([^|]+)\\|([^|]+)\\|([^|]+)\\|$");
    private static final Pattern NAME = Pattern.compile("`([A-Z]+)`");
    private static final Pattern TEXT = Pattern.compile("String text = \"([^\"]*)\";");
    private static final Pattern CALL = Pattern.compile("(?m)^x\\.(\\w+)\\(([-\\d, ]*)\\); +// (-?\\d+): ");
    private static final List<String> FINDINGS = List.of("NULL", "PLACE", "KIND", "SIZE", "STORE");
    private static final int[] NEAR = {0, 1, 2}, WIDE = {-1, 3, 5, 9, 10, 13, 24, 25, 41, 61, 256, 1000000,
        Integer.MIN_VALUE, Integer.MAX_VALUE};
    private static final Map<String, Method> METHODS = new HashMap<>();

    static {
        for (Method method : SwanDeeds.class.getDeclaredMethods()) {
            if (Modifier.isPublic(method.getModifiers())) {
                METHODS.put(method.getName(), method);
            }
        }
    }

    private record Refusals(Set<String> names, boolean noRiverFirst) {
    }

    public static void main(String[] args) throws IOException {
        String page = Files.readString(Path.of("README.md"));
        example(page.substring(page.indexOf("```java\n"), page.indexOf("```\n", page.indexOf("```java\n") + 3)));
        calls(page);
        tests(page);
        DUE.end("ReadmeTest");
    }

    private static void example(String code) {
        Matcher text = TEXT.matcher(code);
        DUE.is("the example tells a river", text.find() ? 1 : 0, 1);
        SwanDeeds x = new SwanDeeds();
        Due.feed(x, text.group(1));
        Matcher call = CALL.matcher(code);
        int calls = 0;
        while (call.find()) {
            calls++;
            int[] arguments = call.group(2).isBlank() ? new int[0]
                : Arrays.stream(call.group(2).split(",")).mapToInt(word -> Integer.parseInt(word.strip())).toArray();
            DUE.is("the example's " + call.group(1) + " " + Arrays.toString(arguments),
                answer(x, METHODS.get(call.group(1)), arguments), Long.parseLong(call.group(3)));
        }
        DUE.is("lines of the example that begin with a call", calls, code.lines().filter(line -> line.startsWith("x.")).count());
    }

    private static void calls(String page) {
        Set<String> told = new TreeSet<>();
        Matcher row = ROW.matcher(page);
        while (row.find()) {
            String name = row.group(1);
            Method method = METHODS.get(name);
            DUE.is("README has " + name + " once", method != null && told.add(name) ? 1 : 0, 1);
            if (method == null) {
                continue;
            }
            int parameters = row.group(2).isBlank() ? 0 : row.group(2).split(",").length;
            DUE.is("parameters of " + name, parameters, method.getParameterCount());
            Set<String> names = namesIn(row.group(5));
            DUE.is(name + " is refused never, or as README names", names.isEmpty() == row.group(5).strip().equals("never") ? 1 : 0, 1);
            String first = names.isEmpty() ? "" : NAME.matcher(row.group(5)).results().findFirst().orElseThrow().group(1);
            if (namesIn(row.group(4)).contains("NONE")) {
                names.add("NONE");
            }
            Refusals seen = refusalsOf(method);
            DUE.is(name + " may answer " + seen.names + ", README says " + names, seen.names.equals(names) ? 1 : 0, 1);
            if (names.contains("BAD")) {
                DUE.is(name + " tells first of all that there is no river", first.equals("STATE") ? 1 : 0, seen.noRiverFirst ? 1 : 0);
            }
        }
        for (String name : METHODS.keySet()) {
            DUE.is("README tells of " + name, told.contains(name) ? 1 : 0, 1);
        }
    }

    private static Set<String> namesIn(String cell) {
        Set<String> names = new TreeSet<>();
        NAME.matcher(cell).results().forEach(found -> names.add(found.group(1)));
        return names;
    }

    private static void tests(String page) throws IOException {
        DUE.is("README names the one command", page.contains("\n.ci/run\n") ? 1 : 0, 1);
        try (var files = Files.list(Path.of("src/test/java"))) {
            for (String file : files.map(path -> path.getFileName().toString()).filter(name -> name.endsWith("Test.java")).toList()) {
                String name = file.substring(0, file.length() - 5);
                DUE.is("README tells of " + name, page.contains("| `" + name + "` |") ? 1 : 0, 1);
            }
        }
    }

    // ---- what a call may answer

    private static SwanDeeds rowed(SwanDeeds x) {
        x.row(0, 2, 3);
        x.row(1, 0, 1);
        return x;
    }

    private static SwanDeeds onTheLastDay() {
        SwanDeeds x = rowed(Due.told("r3,0;p0,0,1;c1,1,2;b2,0,3;"));
        for (int i = 0; i < 41; i++) {
            x.days(24);
        }
        x.days(15);
        Due.feed(x, "r".repeat(99));
        return x;
    }

    private static List<Supplier<SwanDeeds>> beginnings() {
        return List.of(SwanDeeds::new, () -> rowed(new SwanDeeds()),
            () -> rowed(Due.told("r4,0;o0,1,1;b3,2,2;")),
            () -> rowed(Due.told("r5,2;p2,0,4;c1,1,5;y3,2,3;o4,3,2;b0,4,6;c3,4,7;")),
            ReadmeTest::onTheLastDay);
    }

    /** Calls with mostly small numbers, from several beginnings: what is refused there, and by which name. */
    private static Refusals refusalsOf(Method method) {
        Random random = new Random(1);
        Set<String> names = new TreeSet<>();
        for (Supplier<SwanDeeds> beginning : beginnings()) {
            for (int round = 0; round < 20; round++) {
                SwanDeeds x = beginning.get();
                for (int call = 0; call < 40; call++) {
                    String name = nameOf(method, answer(x, method, arguments(method, random)));
                    if (!name.isEmpty()) {
                        names.add(name);
                    }
                }
            }
        }
        int[] wrong = new int[method.getParameterCount()];
        Arrays.fill(wrong, -1);
        return new Refusals(names, answer(new SwanDeeds(), method, wrong) == SwanDeeds.STATE);
    }

    private static int[] arguments(Method method, Random random) {
        int[] arguments = new int[method.getParameterCount()];
        for (int i = 0; i < arguments.length; i++) {
            int[] from = random.nextInt(10) == 0 ? WIDE : NEAR;
            arguments[i] = from[random.nextInt(from.length)];
        }
        return arguments;
    }

    private static String nameOf(Method method, long answer) {
        if (answer == SwanDeeds.NONE) {
            return "NONE";
        }
        if (answer == SwanDeeds.BAD) {
            return "BAD";
        }
        if (answer == SwanDeeds.STATE) {
            return "STATE";
        }
        if (answer == SwanDeeds.FULL) {
            return "FULL";
        }
        if (answer <= Due.NULL && answer >= Due.STORE) {
            return FINDINGS.get((int) (Due.NULL - answer));
        }
        return method.getName().equals("river") && answer <= -1000100 ? "FAULT" : "";
    }

    private static long answer(SwanDeeds x, Method method, int[] arguments) {
        try {
            return ((Number) method.invoke(x, Arrays.stream(arguments).boxed().toArray())).longValue();
        } catch (IllegalAccessException | InvocationTargetException e) {
            throw new IllegalStateException("the call threw: " + method.getName(), e);
        }
    }
}
