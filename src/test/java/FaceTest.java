import java.lang.reflect.Constructor;
import java.lang.reflect.Field;
import java.lang.reflect.Method;
import java.lang.reflect.Modifier;
import java.util.ArrayList;
import java.util.Arrays;
import java.util.List;
import java.util.TreeSet;

/** The public face: the constructor and the fourteen methods with what they may throw, and nothing else. */
public final class FaceTest {
    private static final String[] DUE = {
        "int argument(int, long) throws IllegalArgumentException IndexOutOfBoundsException"
            + " UnsupportedOperationException",
        "int clear()",
        "int compile(int) throws IllegalArgumentException IllegalStateException IndexOutOfBoundsException"
            + " UnsupportedOperationException",
        "int count(int) throws IllegalArgumentException",
        "int end(int) throws IllegalArgumentException",
        "int feed(int, int, int, int, int) throws IndexOutOfBoundsException",
        "int format(int) throws IllegalArgumentException IllegalStateException IndexOutOfBoundsException"
            + " NoSuchElementException UnsupportedOperationException",
        "int parseFloat() throws UnsupportedOperationException",
        "int print(long)",
        "int printFloat(int)",
        "int show(int, int, long) throws IllegalArgumentException",
        "int text() throws IndexOutOfBoundsException",
        "long parse() throws UnsupportedOperationException",
        "long word(int) throws IndexOutOfBoundsException",
    };

    public static void main(String[] args) {
        Check check = new Check("The public face");
        check.sentence("public final class NumberText");
        List<String> seen = new ArrayList<>();
        List<String> publicNames = new ArrayList<>();
        for (Method m : NumberText.class.getDeclaredMethods()) {
            if (!Modifier.isPrivate(m.getModifiers())) {
                seen.add(written(m));
                publicNames.add(m.getName());
                check.due(m.getName() + " is public", Modifier.isPublic(m.getModifiers()), true);
            }
        }
        check.due("the methods", new TreeSet<>(seen), new TreeSet<>(Arrays.asList(DUE)));
        for (Field f : NumberText.class.getDeclaredFields()) {
            check.due(f.getName() + " is private", Modifier.isPrivate(f.getModifiers()), true);
        }
        Constructor<?>[] constructors = NumberText.class.getDeclaredConstructors();
        check.due("constructors", constructors.length, 1);
        check.due("parameters of it", constructors[0].getParameterCount(), 0);
        check.due("it is public", Modifier.isPublic(constructors[0].getModifiers()), true);
        check.due("the class is public and final", NumberText.class.getModifiers() & 17, 17);
        for (Class<?> inside : NumberText.class.getDeclaredClasses()) {
            check.due(inside + " is static", Modifier.isStatic(inside.getModifiers()), true);
            for (Method m : inside.getDeclaredMethods()) {
                check.due(m + " has a name of its own", publicNames.contains(m.getName()), false);
            }
        }
        check.done();
    }

    private static String written(Method m) {
        List<String> parameters = new ArrayList<>();
        for (Class<?> p : m.getParameterTypes()) {
            parameters.add(p.getSimpleName());
        }
        TreeSet<String> thrown = new TreeSet<>();
        for (Class<?> e : m.getExceptionTypes()) {
            thrown.add(e.getSimpleName());
        }
        return m.getReturnType().getSimpleName() + " " + m.getName() + "(" + String.join(", ", parameters) + ")"
            + (thrown.isEmpty() ? "" : " throws " + String.join(" ", thrown));
    }
}
