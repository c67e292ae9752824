import java.io.IOException;
import java.lang.reflect.Constructor;
import java.lang.reflect.Field;
import java.lang.reflect.Method;
import java.lang.reflect.Modifier;
import java.nio.file.Files;
import java.nio.file.Path;
import java.util.Arrays;
import java.util.Set;
import java.util.TreeSet;
import java.util.regex.Matcher;
import java.util.regex.Pattern;
import java.util.stream.Collectors;

/** The document's face: its constants, its constructor, its calls, and nothing else that could be seen from outside. */
public final class FaceTest {
    private static final Due DUE = new Due();
    private static final Path DOCUMENT = Path.of("../shared/DOC.md");
    private static final Pattern METHOD = Pattern.compile("public (int|long) (\\w+)\\(([^)]*)\\);");
    private static final Pattern CONSTANT = Pattern.compile("(\\w+) = (-?\\d+)");

    public static void main(String[] args) throws IOException, IllegalAccessException {
        theClass();
        theConstructor();
        insideIt();
        if (Files.exists(DOCUMENT)) {
            String face = faceOf(Files.readString(DOCUMENT));
            constants(face);
            methods(face);
        }
        DUE.end("FaceTest");
    }

    private static String faceOf(String document) {
        int from = document.indexOf("```java\n", document.indexOf("## The public face"));
        return document.substring(from, document.indexOf("```\n", from + 3));
    }

    private static void theClass() {
        DUE.is("the class is public and final", SwanDeeds.class.getModifiers(), Modifier.PUBLIC | Modifier.FINAL);
        DUE.is("it has no package", SwanDeeds.class.getPackageName().isEmpty() ? 0 : 1, 0);
        DUE.is("it is of no wider class", SwanDeeds.class.getSuperclass() == Object.class ? 0 : 1, 0);
        DUE.is("it is of no interface", SwanDeeds.class.getInterfaces().length, 0);
    }

    private static void theConstructor() {
        Constructor<?>[] constructors = SwanDeeds.class.getDeclaredConstructors();
        DUE.is("constructors", constructors.length, 1);
        DUE.is("the constructor takes nothing", constructors[0].getParameterCount(), 0);
        DUE.is("the constructor is public", constructors[0].getModifiers(), Modifier.PUBLIC);
    }

    private static void constants(String face) throws IllegalAccessException {
        Set<String> promised = new TreeSet<>();
        Matcher constant = CONSTANT.matcher(face);
        while (constant.find()) {
            promised.add(constant.group(1) + " = " + constant.group(2));
        }
        DUE.is("constants that the document promises", promised.size(), 4);
        Set<String> seen = new TreeSet<>();
        for (Field field : SwanDeeds.class.getDeclaredFields()) {
            if (!Modifier.isPrivate(field.getModifiers())) {
                boolean constantOfFace = field.getType() == int.class
                    && field.getModifiers() == (Modifier.PUBLIC | Modifier.STATIC | Modifier.FINAL);
                seen.add(field.getName() + (constantOfFace ? " = " + field.getInt(null) : " is no constant"));
            }
        }
        same("constants", seen, promised);
    }

    private static void methods(String face) {
        Set<String> promised = new TreeSet<>();
        Matcher method = METHOD.matcher(face);
        while (method.find()) {
            promised.add("public " + method.group(1) + " " + method.group(2)
                + "(" + method.group(3).replaceAll(" \\w+(?=,|$)", "").replace(" ", "") + ")");
        }
        DUE.is("calls that the document promises", promised.size(), 40);
        Set<String> seen = new TreeSet<>();
        for (Method own : SwanDeeds.class.getDeclaredMethods()) {
            if (!Modifier.isPrivate(own.getModifiers()) && !own.isSynthetic()) {
                String types = Arrays.stream(own.getParameterTypes()).map(Class::getName).collect(Collectors.joining(","));
                seen.add(Modifier.toString(own.getModifiers()) + " " + own.getReturnType().getName() + " " + own.getName() + "(" + types + ")");
            }
        }
        same("calls", seen, promised);
    }

    private static void insideIt() {
        Set<String> open = new TreeSet<>();
        for (Method method : SwanDeeds.class.getDeclaredMethods()) {
            if (Modifier.isPublic(method.getModifiers())) {
                open.add(method.getName());
            }
        }
        privateNames(SwanDeeds.class, open);
        for (Class<?> inner : SwanDeeds.class.getDeclaredClasses()) {
            DUE.is(inner.getName() + " is static", Modifier.isStatic(inner.getModifiers()) ? 1 : 0, 1);
            DUE.is(inner.getName() + " is not seen from outside",
                inner.getModifiers() & (Modifier.PUBLIC | Modifier.PROTECTED), 0);
            DUE.is(inner.getName() + " has none within it", inner.getDeclaredClasses().length, 0);
            DUE.is(inner.getName() + " has at most twenty fields", beyondTwenty(inner), 0);
            privateNames(inner, open);
        }
        DUE.is("classes, beyond twelve", Math.max(0, SwanDeeds.class.getDeclaredClasses().length - 11), 0);
        DUE.is("SwanDeeds has at most twenty fields", beyondTwenty(SwanDeeds.class), 0);
    }

    private static void privateNames(Class<?> owner, Set<String> open) {
        for (Method method : owner.getDeclaredMethods()) {
            boolean hidden = !Modifier.isPublic(method.getModifiers());
            DUE.is(owner.getName() + "." + method.getName() + " bears a public name",
                hidden && open.contains(method.getName()) ? 1 : 0, 0);
        }
    }

    private static long beyondTwenty(Class<?> owner) {
        long fields = Arrays.stream(owner.getDeclaredFields()).filter(field -> !Modifier.isStatic(field.getModifiers())).count();
        return Math.max(0, fields - 20);
    }

    private static void same(String what, Set<String> seen, Set<String> promised) {
        for (String one : promised) {
            DUE.is(what + ": " + one + " is there", seen.contains(one) ? 1 : 0, 1);
        }
        for (String one : seen) {
            DUE.is(what + ": " + one + " is promised", promised.contains(one) ? 1 : 0, 1);
        }
    }
}
