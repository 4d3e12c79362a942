import java.io.IOException;
import java.lang.reflect.InvocationTargetException;
import java.lang.reflect.Method;
import java.lang.reflect.Modifier;
import java.nio.file.Files;
import java.nio.file.Path;
import java.util.Set;
import java.util.TreeSet;
import java.util.regex.Matcher;
import java.util.regex.Pattern;

/** README.md: the answers of its example, and that it has every call of the face and every test. */
public final class ReadmeTest {
    private static final Pattern TEXT = Pattern.compile("String text = \"(.*)\";");
    private static final Pattern CALL = Pattern.compile("(?m)^limits\\.(\\w+)\\((.*?)\\);\\s*// (\\S+?)[,:]?(?=\\s)");
    private static final Pattern CALL_ROW = Pattern.compile("(?m)^\\| `(\\w+)\\((.*?)\\)` \\|");
    private static final Pattern TEST_ROW = Pattern.compile("(?m)^\\| (\\w+Test) \\|");

    public static void main(String[] args) throws IOException {
        String readme = Files.readString(Path.of("README.md"));
        Set<String> face = new TreeSet<>();
        for (Method method : MakingLimits.class.getDeclaredMethods()) {
            if (Modifier.isPublic(method.getModifiers())) {
                face.add(method.getName() + " of " + method.getParameterCount());
            }
        }
        Due.same("README.md's calls", face, () -> callRows(readme));
        Due.same("README.md's tests", testFiles(), () -> testRows(readme).toString());
        example(readme);
        Due.end();
    }

    private static Set<String> callRows(String readme) {
        Set<String> rows = new TreeSet<>();
        Matcher matcher = CALL_ROW.matcher(readme);
        while (matcher.find()) {
            rows.add(matcher.group(1) + " of " + numbersOf(matcher.group(2)).length);
        }
        return rows;
    }

    private static Set<String> testRows(String readme) {
        Set<String> rows = new TreeSet<>();
        Matcher matcher = TEST_ROW.matcher(readme);
        while (matcher.find()) {
            rows.add(matcher.group(1));
        }
        return rows;
    }

    private static String testFiles() throws IOException {
        Set<String> names = new TreeSet<>();
        try (var files = Files.newDirectoryStream(Path.of("src/test/java"), "*Test.java")) {
            for (Path file : files) {
                names.add(file.getFileName().toString().replace(".java", ""));
            }
        }
        return names.toString();
    }

    /** Runs the example's calls in their order; each answer stands first in its comment. */
    private static void example(String readme) {
        MakingLimits limits = new MakingLimits();
        Matcher text = TEXT.matcher(readme);
        Due.same("README.md has a text", true, text::find);
        text.group(1).chars().forEach(limits::unit);
        Set<String> called = new TreeSet<>(Set.of("unit"));
        Matcher call = CALL.matcher(readme);
        while (call.find()) {
            String name = call.group(1);
            called.add(name);
            String due = name.equals("clear") ? "null" : call.group(3);
            String arguments = call.group(2);
            Due.same("README.md: " + name + "(" + arguments + ")", due, () -> answerOf(limits, name, arguments));
        }
        Due.same("calls that the example has", 16, called::size);
    }

    private static Object answerOf(MakingLimits limits, String name, String arguments) {
        String[] numbers = numbersOf(arguments);
        for (Method method : MakingLimits.class.getDeclaredMethods()) {
            if (Modifier.isPublic(method.getModifiers()) && method.getName().equals(name)) {
                return invoke(limits, method, numbers);
            }
        }
        return "there is no such call";
    }

    private static Object invoke(MakingLimits limits, Method method, String[] numbers) {
        Object[] values = new Object[numbers.length];
        for (int i = 0; i < values.length; i++) {
            boolean isInt = method.getParameterTypes()[i] == int.class;
            values[i] = isInt ? (Object) Integer.valueOf(numbers[i]) : (Object) Long.valueOf(numbers[i]);
        }
        try {
            return method.invoke(limits, values);
        } catch (InvocationTargetException | IllegalAccessException e) {
            return e;
        }
    }

    private static String[] numbersOf(String arguments) {
        return arguments.isEmpty() ? new String[0] : arguments.split(", ");
    }
}
