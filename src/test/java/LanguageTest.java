import java.io.IOException;
import java.nio.file.Files;
import java.nio.file.Path;
import java.util.HashMap;
import java.util.HashSet;
import java.util.List;
import java.util.Map;
import java.util.Set;
import java.util.regex.Matcher;
import java.util.regex.Pattern;

/** Those rules of LANGUAGE.md that can be told from the text of the program. */
public final class LanguageTest {
    private static final Due DUE = new Due();
    private static final Pattern CALL = Pattern.compile("(?<!new )\\b(\\w+)\\(");
    private static final Pattern METHOD = Pattern.compile("(?m)^( +)(?:(?:public|private|static) )*[\\w\\[\\]]+ (\\w+)\\(([^)]*)\\) \\{$");

    public static void main(String[] args) throws IOException {
        String text = Files.readString(Path.of("src/main/java/SwanDeeds.java"));
        DUE.is("signs beyond 127", text.chars().filter(c -> c > 127).count(), 0);
        String code = text.replaceAll("(?s)/\\*.*?\\*/", "").replaceAll("//[^\n]*", "");
        for (String word : List.of("throw", "try", "catch", "synchronized", "assert", "import", "package", "var", "lambda",
                "hashCode", "equals", "toString", "Object", "System.in", "System.out", "Thread", "Random", "volatile")) {
            Matcher found = Pattern.compile("(?<!\\w)" + Pattern.quote(word) + "(?!\\w)").matcher(code);
            DUE.is("the word " + word, found.results().count(), 0);
        }
        for (String sign : List.of("->", "::", "\"", "@", "static {", "Exact(")) {
            DUE.is("the sign " + sign, code.contains(sign) ? 1 : 0, 0);
        }
        DUE.is("static fields that are not final",
            Pattern.compile("(?m)^ +(?:public |private )?static (?!final )[^(]*;").matcher(code).results().count(), 0);
        DUE.is("what is made within a loop of a call", madeInCalls(code), 0);
        methods(code);
        DUE.end("LanguageTest");
    }

    /** Whatever is made, is made by a field or in a constructor: what else stands behind new is counted. */
    private static long madeInCalls(String code) {
        long made = 0;
        for (String line : code.split("\n")) {
            boolean field = line.matches(" +(private )?final .*= .*new .*;");
            boolean acts = line.strip().equals("kept[i] = new River();");
            if (line.contains("new ") && !field && !acts) {
                made++;
            }
        }
        return made;
    }

    private static void methods(String code) {
        Matcher method = METHOD.matcher(code);
        Map<String, StringBuilder> bodies = new HashMap<>();
        int methods = 0;
        while (method.find()) {
            methods++;
            String name = method.group(2);
            int parameters = method.group(3).isEmpty() ? 0 : method.group(3).split(",").length;
            DUE.is("too many parameters of " + name, parameters > 7 ? 1 : 0, 0);
            int end = code.indexOf("\n" + method.group(1) + "}\n", method.end());
            long lines = code.substring(method.start(), end).lines().count();
            DUE.is("too many lines of " + name, lines > 60 ? 1 : 0, 0);
            bodies.computeIfAbsent(name, key -> new StringBuilder()).append(code, method.end(), end);
        }
        DUE.is("methods that were not seen", methods < 100 ? 1 : 0, 0);
        Map<String, Integer> depths = new HashMap<>();
        for (String name : bodies.keySet()) {
            DUE.is("more than eight deep: " + name, depth(name, bodies, depths, new HashSet<>()) > 8 ? 1 : 0, 0);
        }
    }

    /** How deep calls go from one on, the library's too. Methods of one name are taken as one, so it may be less, never more. */
    private static int depth(String name, Map<String, StringBuilder> bodies, Map<String, Integer> depths, Set<String> open) {
        if (!bodies.containsKey(name)) {
            return 1;
        }
        if (!open.add(name)) {
            DUE.is("calls itself: " + name, 1, 0);
            return 1;
        }
        if (!depths.containsKey(name)) {
            int deepest = 0;
            Matcher call = CALL.matcher(bodies.get(name));
            while (call.find()) {
                deepest = Math.max(deepest, depth(call.group(1), bodies, depths, open));
            }
            depths.put(name, deepest + 1);
        }
        open.remove(name);
        return depths.get(name);
    }
}
