import java.lang.reflect.Field;
import java.lang.reflect.Method;
import java.lang.reflect.Modifier;
import java.util.ArrayList;
import java.util.Arrays;
import java.util.List;
import java.util.Set;
import java.util.TreeSet;

/** The class has the document's face, and nothing else that is not private (LANGUAGE.md, rules 1, 5 and 11). */
public final class FaceTest {
    private static final String ARG = " throws IllegalArgumentException";
    private static final String INDEX = " throws IndexOutOfBoundsException";
    private static final String[] FACE = {
        "int addRack(int, int, int, int)" + ARG + ", IllegalStateException",
        "void setRow(int, int, int)" + ARG + ", IllegalStateException",
        "int setFeed(int, int)" + ARG + ", IllegalStateException",
        "int switchFeed(int)" + ARG,
        "boolean hasFailed(int)" + ARG,
        "int racks()",
        "int place(int, int, int, int)" + ARG + ", IllegalStateException",
        "int takeOut(int)" + INDEX,
        "int cord(int, int)" + INDEX + ", IllegalArgumentException, IllegalStateException",
        "int pack()",
        "int machines()",
        "int rackOf(int)" + INDEX,
        "int slotOf(int)" + INDEX,
        "boolean isDark(int)" + INDEX,
        "int machineAt(int, int)" + INDEX,
        "int next(int)" + INDEX,
        "int powerOf(int, int)" + INDEX + ", IllegalArgumentException",
        "int worstOf(int, int)" + INDEX + ", IllegalArgumentException",
        "int weightOf(int)" + INDEX,
        "int heatOf(int)" + ARG,
        "int gap(int)" + INDEX,
        "int racksFor(int, int, int, int)" + ARG,
        "int roomFor(int, int, int, int)" + ARG,
        "int roomByCounting(int, int, int, int)" + ARG,
    };
    private static final Checks checks = new Checks("FaceTest");

    public static void main(String[] args) {
        Class<?> face = RackPlanner.class;
        checks.due("the class's modifiers", Modifier.toString(face.getModifiers()), "public final");
        checks.due("constructors", face.getDeclaredConstructors().length, 1);
        checks.due("the constructor", Modifier.toString(face.getDeclaredConstructors()[0].getModifiers()), "public");
        checks.due("its parameters", face.getDeclaredConstructors()[0].getParameterCount(), 0);
        methods(face);
        fields(face);
        for (Class<?> inside : face.getDeclaredClasses()) {
            checks.due(inside.getName() + " is static", Modifier.isStatic(inside.getModifiers()), true);
            checks.due(inside.getName() + " is public", Modifier.isPublic(inside.getModifiers()), false);
            fields(inside);
        }
        checks.end();
    }

    private static void methods(Class<?> face) {
        Set<String> names = new TreeSet<>();
        Set<String> open = new TreeSet<>();
        List<Method> hidden = new ArrayList<>();
        for (Method method : face.getDeclaredMethods()) {
            if (Modifier.isPrivate(method.getModifiers())) {
                hidden.add(method);
            } else {
                names.add(method.getName());
                open.add(line(method));
            }
        }
        checks.due("the face", String.join("\n", open), String.join("\n", new TreeSet<>(Arrays.asList(FACE))));
        for (Method method : hidden) {
            checks.due("a private " + method.getName() + " beside the face's", names.contains(method.getName()), false);
        }
    }

    private static String line(Method method) {
        String more = Modifier.toString(method.getModifiers()).equals("public") ? "" : "not only public: ";
        List<String> thrown = new ArrayList<>();
        for (Class<?> one : method.getExceptionTypes()) {
            thrown.add(one.getSimpleName());
        }
        List<String> taken = new ArrayList<>();
        for (Class<?> one : method.getParameterTypes()) {
            taken.add(one.getSimpleName());
        }
        return more + method.getReturnType().getSimpleName() + " " + method.getName() + "(" + String.join(", ", taken) + ")"
            + (thrown.isEmpty() ? "" : " throws " + String.join(", ", thrown));
    }

    private static void fields(Class<?> one) {
        for (Field field : one.getDeclaredFields()) {
            int is = field.getModifiers();
            if (Modifier.isStatic(is)) {
                checks.due(one.getName() + "." + field.getName() + " is final", Modifier.isFinal(is), true);
            }
            if (one == RackPlanner.class) {
                checks.due(field.getName() + " is private", Modifier.isPrivate(is), true);
            }
        }
    }
}
