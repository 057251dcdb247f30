import java.lang.reflect.Constructor;
import java.lang.reflect.Field;
import java.lang.reflect.Method;
import java.lang.reflect.Modifier;
import java.util.Arrays;
import java.util.Set;
import java.util.TreeSet;

/** The public face of the document and the language's rule 1: these members, and no other that shows. */
public final class FaceTest {
    private static final Set<String> FACE = new TreeSet<>(Arrays.asList(
            "int set(int, long)", "int digit(int, int)", "int copy(int, int)", "int sum(int, int, int)",
            "int less(int, int, int)", "int product(int, int, int)", "int over(int, int, int)",
            "int left(int, int, int)", "int divisor(int, int, int)", "int root(int, int)",
            "int power(int, int, int)", "int lowest(int, int)", "int fraction(int, int, int, int)",
            "int order(int, int)", "int ratio(int, int, int, int)", "int sign(int)", "int digits(int)",
            "int digitAt(int, int)", "long modulo(int, long)", "long low(int)"));

    public static void main(String[] args) throws ReflectiveOperationException {
        Due due = new Due("FaceTest");
        due.is("class", Modifier.PUBLIC | Modifier.FINAL, BigDesk.class.getModifiers());
        due.is("methods", FACE, methodsThatShow());
        due.is("fields", "[NONE]", fieldsThatShow().toString());
        due.is("NONE", -1, BigDesk.NONE);
        int constant = Modifier.PUBLIC | Modifier.STATIC | Modifier.FINAL;
        due.is("NONE's modifiers", constant, BigDesk.class.getField("NONE").getModifiers());
        due.is("NONE's type", int.class, BigDesk.class.getField("NONE").getType());
        Constructor<?>[] constructors = BigDesk.class.getDeclaredConstructors();
        due.is("constructors", 1, constructors.length);
        due.is("constructor", "public BigDesk()", constructors[0].toString());
        namesOfPrivateMethods(due);
        due.end();
    }

    private static Set<String> methodsThatShow() {
        Set<String> found = new TreeSet<>();
        for (Method method : BigDesk.class.getDeclaredMethods()) {
            if (!Modifier.isPrivate(method.getModifiers())) {
                String types = Arrays.toString(method.getParameterTypes()).replace("[", "(").replace("]", ")");
                String kind = method.getModifiers() == Modifier.PUBLIC ? "" : "not just public: ";
                found.add(kind + method.getReturnType() + " " + method.getName() + types);
            }
        }
        return found;
    }

    private static Set<String> fieldsThatShow() {
        Set<String> found = new TreeSet<>();
        for (Field field : BigDesk.class.getDeclaredFields()) {
            if (!Modifier.isPrivate(field.getModifiers())) {
                found.add(field.getName());
            }
        }
        return found;
    }

    private static void namesOfPrivateMethods(Due due) {
        Set<String> names = new TreeSet<>();
        for (String call : FACE) {
            names.add(call.substring(call.indexOf(' ') + 1, call.indexOf('(')));
        }
        for (Method method : BigDesk.class.getDeclaredMethods()) {
            boolean hidden = Modifier.isPrivate(method.getModifiers());
            due.is("private and public name " + method.getName(), !hidden, names.contains(method.getName()));
        }
    }
}
