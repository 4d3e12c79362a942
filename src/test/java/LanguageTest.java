import java.io.IOException;
import java.lang.reflect.Constructor;
import java.lang.reflect.Field;
import java.lang.reflect.Method;
import java.lang.reflect.Modifier;
import java.nio.file.Files;
import java.nio.file.Path;
import java.util.ArrayList;
import java.util.Arrays;
import java.util.List;
import java.util.Set;
import java.util.TreeSet;
import java.util.regex.Matcher;
import java.util.regex.Pattern;

/**
 * The rules of LANGUAGE.md that a look at the source and at the compiled class can tell. Some are held more narrowly
 * than they are written (no catch, no while, no cast to a class at all), for the class has no need of more.
 */
public final class LanguageTest {
    private static final Path SOURCE = Path.of("src/main/java/MakingLimits.java");

    /** Rule 6 has more, but the document asks for these alone. */
    private static final Set<String> THROWN = Set.of("IllegalArgumentException", "IndexOutOfBoundsException");
    private static final Set<String> IMPORTS = Set.of("java.util.Arrays", "java.util.ArrayList", "java.util.List",
            "java.util.Iterator", "java.util.NoSuchElementException");
    private static final Set<String> ARRAYS = Set.of("fill", "copyOf", "copyOfRange");
    private static final Set<Class<?>> CONSTANTS = Set.of(int.class, long.class, boolean.class, char.class,
            String.class, int[].class, long[].class, char[].class, byte[].class);

    private static final int MOST_CLASSES = 12;
    private static final int MOST_FIELDS = 20;
    private static final int MOST_PARAMETERS = 7;
    private static final int MOST_LINES = 60;

    public static void main(String[] args) throws IOException {
        String code = bare(Files.readString(SOURCE));
        none(1, "package lines", found(code, "(?m)^\\s*package\\b.*"));
        none(2, "lambdas and method references", found(code, "->|::"));
        none(4, "imports", others(code, "(?m)^import\\s+(.*?);", IMPORTS));
        none(4, "calls of Arrays", others(code, "\\bArrays\\.(\\w+)", ARRAYS));
        none(4, "calls of System", others(code, "\\bSystem\\.(\\w+)", Set.of("arraycopy")));
        none(4, "calls whose name ends in Exact", found(code, "\\w+Exact\\("));
        none(6, "throws", others(code, "\\bthrow\\b\\s*(?:new\\s+(\\w+)\\(\"\"\\);)?", THROWN));
        none(6, "catches, finally and their like", found(code, "\\b(?:try|catch|finally|synchronized|assert)\\b"));
        none(6, "equals, hashCode and toString", found(code, "\\b(?:equals|hashCode|toString)\\("));
        none(7, "casts to a class", found(code, "\\([A-Z]\\w*(?:\\[\\])?\\)\\s*[\\w(]"));
        none(9, "loops without a counter", found(code, "\\bwhile\\b|\\bdo\\b|for\\s*\\(\\s*;"));
        none(11, "long methods", longMethods(code));
        none(13, "clock, randomness, threads", found(code, "\\b(?:Random|Thread|Runtime|Instant|nanoTime)\\b"));

        List<Class<?>> classes = classes();
        Due.same("LANGUAGE.md, rule 11: at most " + MOST_CLASSES + " classes", true,
                () -> classes.size() <= MOST_CLASSES);
        for (Class<?> each : classes) {
            members(each);
        }
        Due.end();
    }

    private static void none(int rule, String what, List<String> found) {
        Due.same("LANGUAGE.md, rule " + rule + ", of " + what + ":", "[]", () -> found);
    }

    /** Without comments, and with every text empty, for neither is code. */
    private static String bare(String source) {
        Matcher matcher = Pattern.compile("(?s)/\\*.*?\\*/|//[^\\n]*|\"(?:\\\\.|[^\"\\\\])*\"|'(?:\\\\.|[^'\\\\])+'")
                .matcher(source);
        return matcher.replaceAll(match -> switch (match.group().charAt(0)) {
            case '"' -> "\"\"";
            case '\'' -> "' '";
            default -> match.group().replaceAll("[^\\n]", "");
        });
    }

    private static List<String> found(String code, String pattern) {
        return others(code, "(" + pattern + ")", Set.of());
    }

    /** What the pattern's first group finds that is not among the allowed. */
    private static List<String> others(String code, String pattern, Set<String> allowed) {
        List<String> found = new ArrayList<>();
        Matcher matcher = Pattern.compile(pattern).matcher(code);
        while (matcher.find()) {
            String name = matcher.group(1);
            if (name == null || !allowed.contains(name)) {
                found.add(matcher.group());
            }
        }
        return found;
    }

    /** By the indentation of the file: a method ends at the brace that stands below its first line's beginning. */
    private static List<String> longMethods(String code) {
        List<String> found = new ArrayList<>();
        Matcher matcher = Pattern.compile("(?ms)^( {4}| {8})(?! )[^\\n]*\\)[^\\n;]*\\{$.*?^\\1\\}").matcher(code);
        while (matcher.find()) {
            if (matcher.group().lines().count() > MOST_LINES) {
                found.add(matcher.group().lines().findFirst().orElse(""));
            }
        }
        return found;
    }

    private static List<Class<?>> classes() {
        List<Class<?>> classes = new ArrayList<>();
        classes.add(MakingLimits.class);
        for (int i = 0; i < classes.size(); i++) {
            classes.addAll(Arrays.asList(classes.get(i).getDeclaredClasses()));
        }
        return classes;
    }

    private static void members(Class<?> owner) {
        String name = owner.getSimpleName();
        if (owner != MakingLimits.class) {
            int modifiers = owner.getModifiers();
            Due.same("LANGUAGE.md, rule 1: " + name + " is static, and private or package-visible", true,
                    () -> Modifier.isStatic(modifiers) && !Modifier.isPublic(modifiers)
                            && !Modifier.isProtected(modifiers));
        }
        none(5, "static fields of " + name, strayStatics(owner));
        none(3, "fields of " + name, strayTypes(owner));
        none(11, "parameters in " + name, longHeads(owner));
        Due.same("LANGUAGE.md, rule 11: " + name + " has at most " + MOST_FIELDS + " fields", true,
                () -> Arrays.stream(owner.getDeclaredFields())
                        .filter(field -> !Modifier.isStatic(field.getModifiers())).count() <= MOST_FIELDS);
    }

    private static List<String> strayStatics(Class<?> owner) {
        List<String> found = new ArrayList<>();
        for (Field field : owner.getDeclaredFields()) {
            boolean constant = Modifier.isFinal(field.getModifiers()) && CONSTANTS.contains(field.getType());
            if (Modifier.isStatic(field.getModifiers()) && !constant) {
                found.add(field.getName());
            }
        }
        return found;
    }

    /** Numbers, booleans, classes of the file, and arrays of one dimension of these. */
    private static List<String> strayTypes(Class<?> owner) {
        List<String> found = new ArrayList<>();
        for (Field field : owner.getDeclaredFields()) {
            Class<?> type = field.getType().isArray() ? field.getType().getComponentType() : field.getType();
            if (!type.isPrimitive() && !classes().contains(type) && type != String.class) {
                found.add(field.getName());
            }
        }
        return found;
    }

    private static List<String> longHeads(Class<?> owner) {
        Set<String> found = new TreeSet<>();
        for (Method method : owner.getDeclaredMethods()) {
            if (method.getParameterCount() > MOST_PARAMETERS) {
                found.add(method.getName());
            }
        }
        for (Constructor<?> constructor : owner.getDeclaredConstructors()) {
            if (constructor.getParameterCount() > MOST_PARAMETERS) {
                found.add(constructor.getName());
            }
        }
        return new ArrayList<>(found);
    }
}
