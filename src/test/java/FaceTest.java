import java.lang.reflect.Constructor;
import java.lang.reflect.Field;
import java.lang.reflect.Method;
import java.lang.reflect.Modifier;
import java.util.Arrays;
import java.util.TreeSet;

/** The public face, and LANGUAGE.md's rule 1: that and no other member that is not private. */
public final class FaceTest {
    private static final String[] METHODS = {
        "boolean unit(int)",
        "int maker()",
        "int thing(int,long,int) IndexOutOfBoundsException IllegalArgumentException",
        "boolean at(int,long,long) IndexOutOfBoundsException IllegalArgumentException",
        "int run(int,int) IndexOutOfBoundsException",
        "int remark(int,int) IndexOutOfBoundsException",
        "int least(int) IndexOutOfBoundsException",
        "long price(int,int,long) IndexOutOfBoundsException IllegalArgumentException",
        "long share(long,long,int) IndexOutOfBoundsException IllegalArgumentException",
        "long balance(int,int,int) IndexOutOfBoundsException",
        "int quote(int,long) IndexOutOfBoundsException",
        "boolean copper(int,int,long,long) IndexOutOfBoundsException IllegalArgumentException",
        "int best(long) IllegalArgumentException",
        "int order(int,long,long) IndexOutOfBoundsException IllegalArgumentException",
        "int history(int,int) IndexOutOfBoundsException",
        "void clear()",
    };

    public static void main(String[] args) {
        Due.same("NONE", -1, () -> MakingLimits.NONE);
        Due.same("class", "public final", () -> Modifier.toString(MakingLimits.class.getModifiers()));
        Due.same("methods", new TreeSet<>(Arrays.asList(METHODS)), FaceTest::openMethods);
        Due.same("fields", "[NONE]", FaceTest::openFields);
        Due.same("constructors", "[public MakingLimits()]", FaceTest::constructors);
        Due.same("private methods that bear a public one's name", "[]", FaceTest::sharedNames);
        Due.end();
    }

    private static TreeSet<String> openMethods() {
        TreeSet<String> found = new TreeSet<>();
        for (Method method : MakingLimits.class.getDeclaredMethods()) {
            if (!Modifier.isPrivate(method.getModifiers()) && !method.isSynthetic()) {
                found.add(faceOf(method));
            }
        }
        return found;
    }

    private static String faceOf(Method method) {
        String modifiers = Modifier.toString(method.getModifiers());
        StringBuilder face = new StringBuilder(modifiers.equals("public") ? "" : modifiers + " ");
        face.append(method.getReturnType()).append(' ').append(method.getName()).append('(');
        face.append(Arrays.toString(method.getParameterTypes()).replaceAll("[\\[\\] ]", "")).append(')');
        for (Class<?> thrown : method.getExceptionTypes()) {
            face.append(' ').append(thrown.getSimpleName());
        }
        return face.toString();
    }

    private static TreeSet<String> openFields() {
        TreeSet<String> found = new TreeSet<>();
        for (Field field : MakingLimits.class.getDeclaredFields()) {
            if (!Modifier.isPrivate(field.getModifiers())) {
                found.add(field.getName());
            }
        }
        return found;
    }

    private static String constructors() {
        Constructor<?>[] found = MakingLimits.class.getDeclaredConstructors();
        return Arrays.toString(found);
    }

    private static TreeSet<String> sharedNames() {
        TreeSet<String> open = new TreeSet<>();
        TreeSet<String> hidden = new TreeSet<>();
        for (Method method : MakingLimits.class.getDeclaredMethods()) {
            (Modifier.isPublic(method.getModifiers()) ? open : hidden).add(method.getName());
        }
        for (Class<?> inner : MakingLimits.class.getDeclaredClasses()) {
            for (Method method : inner.getDeclaredMethods()) {
                if (Modifier.isPrivate(method.getModifiers())) {
                    hidden.add(method.getName());
                }
            }
        }
        hidden.retainAll(open);
        return hidden;
    }
}
