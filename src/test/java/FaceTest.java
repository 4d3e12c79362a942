import java.lang.reflect.Constructor;
import java.lang.reflect.Field;
import java.lang.reflect.Method;
import java.lang.reflect.Modifier;
import java.util.Arrays;
import java.util.TreeSet;

/** The public face, and LANGUAGE.md's rule 1: that and no other member that is not private. */
public final class FaceTest {
    private static final String[] METHODS = {
        "boolean unit(int)", "int maker()", "int thing(int,long,int)", "boolean at(int,long,long)",
        "int run(int,int)", "int remark(int,int)", "int least(int)", "long price(int,int,long)",
        "long share(long,long,int)", "long balance(int,int,int)", "int quote(int,long)",
        "boolean copper(int,int,long,long)", "int best(long)", "int order(int,long,long)",
        "int history(int,int)", "void clear()",
    };

    public static void main(String[] args) {
        Due.same("NONE", -1, () -> MakingLimits.NONE);
        Due.same("class", "public final", () -> Modifier.toString(MakingLimits.class.getModifiers()));
        Due.same("methods", new TreeSet<>(Arrays.asList(METHODS)), FaceTest::openMethods);
        Due.same("fields", "[NONE]", FaceTest::openFields);
        Due.same("constructors", "[public MakingLimits()]", FaceTest::constructors);
        Due.same("private methods that bear a public one's name", "[]", FaceTest::sharedNames);
        Due.end();
    }

    private static TreeSet<String> openMethods() {
        TreeSet<String> found = new TreeSet<>();
        for (Method method : MakingLimits.class.getDeclaredMethods()) {
            if (!Modifier.isPrivate(method.getModifiers()) && !method.isSynthetic()) {
                String modifiers = Modifier.toString(method.getModifiers());
                String parameters = Arrays.toString(method.getParameterTypes()).replaceAll("[\\[\\] ]", "");
                found.add((modifiers.equals("public") ? "" : modifiers + " ")
                        + method.getReturnType() + " " + method.getName() + "(" + parameters + ")");
            }
        }
        return found;
    }

    private static TreeSet<String> openFields() {
        TreeSet<String> found = new TreeSet<>();
        for (Field field : MakingLimits.class.getDeclaredFields()) {
            if (!Modifier.isPrivate(field.getModifiers())) {
                found.add(field.getName());
            }
        }
        return found;
    }

    private static String constructors() {
        Constructor<?>[] found = MakingLimits.class.getDeclaredConstructors();
        return Arrays.toString(found);
    }

    private static TreeSet<String> sharedNames() {
        TreeSet<String> open = new TreeSet<>();
        TreeSet<String> hidden = new TreeSet<>();
        for (Method method : MakingLimits.class.getDeclaredMethods()) {
            (Modifier.isPublic(method.getModifiers()) ? open : hidden).add(method.getName());
        }
        for (Class<?> inner : MakingLimits.class.getDeclaredClasses()) {
            for (Method method : inner.getDeclaredMethods()) {
                hidden.add(method.getName());
            }
        }
        hidden.retainAll(open);
        return hidden;
    }
}
