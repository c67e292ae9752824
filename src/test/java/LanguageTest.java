import java.io.IOException;
import java.nio.file.Files;
import java.nio.file.Path;
import java.util.List;
import java.util.regex.Matcher;
import java.util.regex.Pattern;

/** Those rules of LANGUAGE.md that can be told from the text of the program. */
public final class LanguageTest {
    private static final Due DUE = new Due();
    private static final Pattern METHOD = Pattern.compile("(?m)^( +)(?:(?:public|private|static) )*[\\w\\[\\]]+ (\\w+)\\(([^)]*)\\) \\{$");

    public static void main(String[] args) throws IOException {
        String text = Files.readString(Path.of("src/main/java/SwanDeeds.java"));
        DUE.is("signs beyond 127", text.chars().filter(c -> c > 127).count(), 0);
        String code = text.replaceAll("(?s)/\\*.*?\\*/", "").replaceAll("//[^\n]*", "");
        for (String word : List.of("throw", "try", "catch", "synchronized", "assert", "import", "package", "var", "lambda",
                "hashCode", "equals", "toString", "Object", "System.in", "System.out", "Thread", "Random", "volatile")) {
            Matcher found = Pattern.compile("(?<!\\w)" + Pattern.quote(word) + "(?!\\w)").matcher(code);
            DUE.is("the word " + word, found.results().count(), 0);
        }
        for (String sign : List.of("->", "::", "\"", "@", "static {", "Exact(")) {
            DUE.is("the sign " + sign, code.contains(sign) ? 1 : 0, 0);
        }
        DUE.is("static fields that are not final",
            Pattern.compile("(?m)^ +(?:public |private )?static (?!final )[^(]*;").matcher(code).results().count(), 0);
        DUE.is("what is made within a loop of a call", madeInCalls(code), 0);
        methods(code);
        DUE.end("LanguageTest");
    }

    /** Whatever is made, is made by a field or in a constructor: what else stands behind new is counted. */
    private static long madeInCalls(String code) {
        long made = 0;
        for (String line : code.split("\n")) {
            boolean field = line.matches(" +(private )?final .*= .*new .*;");
            boolean acts = line.strip().equals("kept[i] = new River();");
            if (line.contains("new ") && !field && !acts) {
                made++;
            }
        }
        return made;
    }

    private static void methods(String code) {
        Matcher method = METHOD.matcher(code);
        int methods = 0;
        while (method.find()) {
            methods++;
            String name = method.group(2);
            int parameters = method.group(3).isEmpty() ? 0 : method.group(3).split(",").length;
            DUE.is("too many parameters of " + name, parameters > 7 ? 1 : 0, 0);
            int end = code.indexOf("\n" + method.group(1) + "}\n", method.end());
            long lines = code.substring(method.start(), end).lines().count();
            DUE.is("too many lines of " + name, lines > 60 ? 1 : 0, 0);
        }
        DUE.is("methods that were not seen", methods < 100 ? 1 : 0, 0);
    }
}
