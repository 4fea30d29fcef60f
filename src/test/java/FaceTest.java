import java.lang.reflect.Constructor;
import java.lang.reflect.Field;
import java.lang.reflect.Method;
import java.lang.reflect.Modifier;
import java.util.Arrays;
import java.util.TreeSet;

/** The class has the document's face and shows nothing else. */
public final class FaceTest {
    private static final Check CHECK = new Check();
    private static final String INDEX = " throws IndexOutOfBoundsException";
    private static final String ARGUMENT = " throws IllegalArgumentException";
    private static final String BOTH = " throws IllegalArgumentException, IllegalStateException";

    public static void main(String[] args) {
        Class<?> face = HyphenPatterns.class;
        CHECK.same("final", Modifier.isFinal(face.getModifiers()), true);
        CHECK.same("constructors", constructors(face), "[public ()]");
        CHECK.same("constants", constants(face), "[EDGE=0, END=-11, HYPHEN=-10, NONE=-1]");
        CHECK.same("methods", methods(face), new TreeSet<>(Arrays.asList(
            "int choose(int)" + INDEX,
            "void letters(int, int, int)" + BOTH,
            "void least(int, int)" + ARGUMENT,
            "int tell(int, int, int, int, int)" + BOTH,
            "int drop()",
            "int pattern()" + BOTH,
            "int exception()" + BOTH,
            "int forget()",
            "int add(int, int, int, int, int)" + BOTH,
            "int clear()",
            "int value(int)" + INDEX,
            "boolean breaks(int)" + INDEX,
            "int word(int, boolean)",
            "int count(int)")).toString());
        checkClassesInside(face);
        CHECK.end();
    }

    private static String constructors(Class<?> face) {
        TreeSet<String> found = new TreeSet<>();
        for (Constructor<?> made : face.getDeclaredConstructors()) {
            found.add(Modifier.toString(made.getModifiers()) + " " + list(made.getParameterTypes(), "(", ")"));
        }
        return found.toString();
    }

    private static String constants(Class<?> face) {
        TreeSet<String> found = new TreeSet<>();
        for (Field field : face.getDeclaredFields()) {
            if (!Modifier.isPrivate(field.getModifiers())) {
                found.add(field.getName() + "=" + constant(field));
            }
        }
        return found.toString();
    }

    private static String constant(Field field) {
        try {
            return Modifier.toString(field.getModifiers()).equals("public static final") ? "" + field.getInt(null) : "?";
        } catch (IllegalAccessException | IllegalArgumentException closed) {
            return "?";
        }
    }

    private static String methods(Class<?> face) {
        TreeSet<String> found = new TreeSet<>();
        for (Method method : face.getDeclaredMethods()) {
            if (!Modifier.isPrivate(method.getModifiers())) {
                boolean plain = Modifier.toString(method.getModifiers()).equals("public");
                found.add((plain ? "" : "?") + method.getReturnType().getSimpleName() + " " + method.getName()
                    + list(method.getParameterTypes(), "(", ")") + thrown(method));
            }
        }
        return found.toString();
    }

    private static String thrown(Method method) {
        Class<?>[] types = method.getExceptionTypes();
        return types.length == 0 ? "" : list(types, " throws ", "");
    }

    private static String list(Class<?>[] types, String before, String behind) {
        StringBuilder names = new StringBuilder(before);
        for (int i = 0; i < types.length; i++) {
            names.append(i == 0 ? "" : ", ").append(types[i].getSimpleName());
        }
        return names.append(behind).toString();
    }

    /** Rule 1: classes inside are static and not public, and no other method bears a public one's name. */
    private static void checkClassesInside(Class<?> face) {
        TreeSet<String> open = new TreeSet<>();
        for (Method method : face.getDeclaredMethods()) {
            if (Modifier.isPublic(method.getModifiers())) {
                open.add(method.getName());
            }
        }
        CHECK.same("public names", open.size(), 14);
        checkNames(face, open);
        for (Class<?> inside : face.getDeclaredClasses()) {
            CHECK.same("static " + inside, Modifier.isStatic(inside.getModifiers()), true);
            CHECK.same("public " + inside, Modifier.isPublic(inside.getModifiers()), false);
            CHECK.same("protected " + inside, Modifier.isProtected(inside.getModifiers()), false);
            checkNames(inside, open);
        }
    }

    private static void checkNames(Class<?> owner, TreeSet<String> open) {
        for (Method method : owner.getDeclaredMethods()) {
            if (!Modifier.isPublic(method.getModifiers())) {
                CHECK.same(method + " bears a public name", open.contains(method.getName()), false);
            }
        }
    }
}
