import java.lang.reflect.Constructor;
import java.lang.reflect.Field;
import java.lang.reflect.Method;
import java.lang.reflect.Modifier;
import java.util.Arrays;
import java.util.Set;
import java.util.TreeSet;

/** The class shows the document's face and nothing else. */
public final class FaceTest {
    private static final String IAE = "java.lang.IllegalArgumentException";
    private static final String ISE = "java.lang.IllegalStateException";
    private static final String NSEE = "java.util.NoSuchElementException";

    private static final String[] METHODS = {
        "int node(int, int) " + IAE + " " + ISE,
        "int contact(int, int, int, int) " + IAE + " " + ISE,
        "int now()",
        "int book(int, int, int) " + IAE + " " + ISE,
        "int whatIf(int, int, int) " + IAE + " " + ISE,
        "int cancel(int) " + NSEE + " " + ISE,
        "int cut(int, int) " + IAE,
        "int tick() " + ISE,
        "int state(int)",
        "int where(int)",
        "int arrival(int)",
        "int step(int, int)",
        "int linkUsed(int, int, int)",
        "int stored(int, int)",
        "boolean open(int, int, int)",
        "int free(int, int)",
    };

    public static void main(String[] args) {
        Class<?> face = RelayPassages.class;
        Check.due("public and final", true,
            Modifier.isPublic(face.getModifiers()) && Modifier.isFinal(face.getModifiers()));
        Check.due("methods", new TreeSet<>(Arrays.asList(METHODS)).toString(), methods(face).toString());
        Check.due("constants", "[ARRIVED=3, BOOKED=1, CANCELLED=4, LOST=5, NONE=-1, TRAVELLING=2]",
            constants(face).toString());
        Constructor<?>[] constructors = face.getDeclaredConstructors();
        Check.due("constructors", 1, constructors.length);
        Check.due("constructor's parameters", 0, constructors[0].getParameterCount());
        Check.due("constructor is public", true, Modifier.isPublic(constructors[0].getModifiers()));
        Check.end();
    }

    private static Set<String> methods(Class<?> face) {
        Set<String> shown = new TreeSet<>();
        for (Method method : face.getDeclaredMethods()) {
            if (!Modifier.isPrivate(method.getModifiers())) {
                shown.add(describe(method));
            }
        }
        return shown;
    }

    private static String describe(Method method) {
        StringBuilder text = new StringBuilder();
        text.append(method.getReturnType().getName()).append(' ').append(method.getName()).append('(');
        for (int i = 0; i < method.getParameterCount(); i++) {
            text.append(i == 0 ? "" : ", ").append(method.getParameterTypes()[i].getName());
        }
        text.append(')');
        for (Class<?> thrown : method.getExceptionTypes()) {
            text.append(' ').append(thrown.getName());
        }
        return text.toString();
    }

    private static Set<String> constants(Class<?> face) {
        Set<String> shown = new TreeSet<>();
        for (Field field : face.getDeclaredFields()) {
            if (!Modifier.isPrivate(field.getModifiers())) {
                shown.add(field.getName() + "=" + valueOf(field));
            }
        }
        return shown;
    }

    private static String valueOf(Field field) {
        int wanted = Modifier.PUBLIC | Modifier.STATIC | Modifier.FINAL;
        try {
            return (field.getModifiers() & wanted) == wanted ? String.valueOf(field.get(null)) : "no constant";
        } catch (IllegalAccessException e) {
            return "out of reach";
        }
    }
}
