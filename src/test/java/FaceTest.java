import java.lang.reflect.Constructor;
import java.lang.reflect.Field;
import java.lang.reflect.Method;
import java.lang.reflect.Modifier;
import java.util.Arrays;
import java.util.Set;
import java.util.TreeSet;

/** The public face, and what the rules 1, 2, 5 and 11 of LANGUAGE.md ask of classes and members. */
public final class FaceTest {
    private static final Check CHECK = new Check("FaceTest");
    private static final Set<String> FACE = Set.of(
        "int begin(int)", "int add(int, int, int, int, int)", "boolean end()", "boolean drop()", "int holds(int)",
        "boolean post(int, int)", "int step(int)", "int collect(int)", "int waiting(int)", "int owner(int)",
        "int cell(int)", "int count(int, int)", "int field(int, int)", "int inner(int, int)", "int rights(int, int)",
        "int shown(int)", "int garbage()", "int lost()");

    public static void main(String[] args) {
        Class<?> face = CountedActors.class;
        CHECK.due("the class is public and final", face.getModifiers(), Modifier.PUBLIC | Modifier.FINAL);
        CHECK.due("it has no package", face.getPackageName().isEmpty(), true);
        methods(face);
        CHECK.due("one constructor", face.getDeclaredConstructors().length, 1);
        for (Constructor<?> made : face.getDeclaredConstructors()) {
            CHECK.due("the constructor is public", made.getModifiers(), Modifier.PUBLIC);
            CHECK.due("it takes an int", Arrays.equals(made.getParameterTypes(), new Class<?>[] {int.class}), true);
        }
        fields(face);
        int classes = 1;
        for (Class<?> inside : face.getDeclaredClasses()) {
            classes++;
            CHECK.due(inside + " is static", Modifier.isStatic(inside.getModifiers()), true);
            CHECK.due(inside + " is not public", inside.getModifiers() & (Modifier.PUBLIC | Modifier.PROTECTED), 0);
            fields(inside);
            privateNamesAreNoneOfTheFace(inside);
        }
        CHECK.due("some twelve classes at the most", classes <= 14, true);
        CHECK.finish();
    }

    private static void methods(Class<?> face) {
        Set<String> found = new TreeSet<>();
        for (Method m : face.getDeclaredMethods()) {
            if (!Modifier.isPrivate(m.getModifiers())) {
                String types = Arrays.toString(m.getParameterTypes());
                found.add(m.getReturnType() + " " + m.getName() + "(" + types.substring(1, types.length() - 1) + ")");
                CHECK.due(m + " is public alone", m.getModifiers(), Modifier.PUBLIC);
            } else {
                CHECK.due(m + " has a name of its own", isOfTheFace(m.getName()), false);
            }
        }
        CHECK.due("the methods are those of the face", found.equals(FACE), true);
    }

    private static boolean isOfTheFace(String name) {
        return FACE.stream().anyMatch(method -> method.contains(" " + name + "("));
    }

    private static void privateNamesAreNoneOfTheFace(Class<?> inside) {
        for (Method m : inside.getDeclaredMethods()) {
            boolean isPrivate = Modifier.isPrivate(m.getModifiers());
            CHECK.due(m + " has a name of its own", isPrivate && isOfTheFace(m.getName()), false);
        }
    }

    private static void fields(Class<?> owner) {
        int own = 0;
        for (Field f : owner.getDeclaredFields()) {
            boolean isStatic = Modifier.isStatic(f.getModifiers());
            own += isStatic ? 0 : 1;
            CHECK.due(f + " is final if it is static", !isStatic || Modifier.isFinal(f.getModifiers()), true);
            if (owner == CountedActors.class) {
                CHECK.due(f + " is private", Modifier.isPrivate(f.getModifiers()), true);
            }
        }
        CHECK.due(owner + " has some twenty fields at the most", own <= 22, true);
    }
}
