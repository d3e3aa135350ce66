import java.lang.reflect.Constructor;
import java.lang.reflect.Field;
import java.lang.reflect.Method;
import java.lang.reflect.Modifier;
import java.util.Set;
import java.util.TreeSet;

/** The class has the document's face, and nothing else in it can be seen from outside. */
final class FaceTest {
    private static final Set<String> DUE = Set.of(
            "boolean code(int, int)",
            "int object(int, int, int) IllegalArgumentException IllegalStateException",
            "void property(int, int, int, int) NoSuchElementException IllegalArgumentException IllegalStateException",
            "void begin(int, int) NoSuchElementException IllegalArgumentException IllegalStateException",
            "int run(int)",
            "boolean stop()",
            "int collect()",
            "int stack(int, int) NoSuchElementException",
            "int show(int) NoSuchElementException",
            "int said(int, int) NoSuchElementException",
            "int has(int, int, int) NoSuchElementException",
            "boolean isOf(int, int)");

    public static void main(String[] args) {
        Class<?> c = TaleMachine.class;
        Check.yes("public and final", Modifier.isPublic(c.getModifiers()) && Modifier.isFinal(c.getModifiers()));
        Set<String> seen = new TreeSet<>();
        Set<String> names = new TreeSet<>();
        for (Method m : c.getDeclaredMethods()) {
            if (!Modifier.isPrivate(m.getModifiers())) {
                seen.add(described(m));
                names.add(m.getName());
            }
        }
        Check.same("methods", seen, new TreeSet<>(DUE));
        for (Method m : c.getDeclaredMethods()) {
            Check.no("a private " + m.getName(), Modifier.isPrivate(m.getModifiers()) && names.contains(m.getName()));
        }
        for (Field f : c.getDeclaredFields()) {
            Check.yes("private " + f.getName(), Modifier.isPrivate(f.getModifiers()));
        }
        Constructor<?>[] constructors = c.getDeclaredConstructors();
        Check.same("constructors", constructors.length, 1);
        Check.same("without parameters", constructors[0].getParameterCount(), 0);
        Check.end();
    }

    private static String described(Method m) {
        StringBuilder text = new StringBuilder(m.getReturnType().getSimpleName());
        text.append(' ').append(m.getName()).append('(');
        for (int i = 0; i < m.getParameterCount(); i++) {
            text.append(i > 0 ? ", " : "").append(m.getParameterTypes()[i].getSimpleName());
        }
        text.append(')');
        for (Class<?> e : m.getExceptionTypes()) {
            text.append(' ').append(e.getSimpleName());
        }
        return text.toString();
    }
}
