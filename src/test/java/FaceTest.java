import java.lang.reflect.Constructor;
import java.lang.reflect.Field;
import java.lang.reflect.Method;
import java.lang.reflect.Modifier;
import java.util.Arrays;
import java.util.Set;
import java.util.TreeSet;

/** The class shows the document's face, and nothing beside it. */
public final class FaceTest {
    private static final String[] FACE = {
        "public int begin() throws IllegalStateException",
        "public int cook(int, int, int) throws IndexOutOfBoundsException, IllegalArgumentException, IllegalStateException",
        "public int finish(int) throws IndexOutOfBoundsException, IllegalStateException",
        "public int drop(int) throws IndexOutOfBoundsException, IllegalStateException",
        "public int shelve(int) throws IndexOutOfBoundsException",
        "public int blow()",
        "public int fall()",
        "public int pot(int, int) throws IndexOutOfBoundsException",
        "public int dish(int, int) throws IndexOutOfBoundsException",
        "public int line(int, int) throws IndexOutOfBoundsException",
        "public int count(int) throws IndexOutOfBoundsException",
        "public int would(int) throws IndexOutOfBoundsException",
        "public int left(int) throws IndexOutOfBoundsException",
        "public double mean()",
        "public long digest()",
    };

    public static void main(String[] args) {
        Class<?> face = ChalkSlate.class;
        int wrong = 0;
        wrong += check("the class is public and final", face.getModifiers() == (Modifier.PUBLIC | Modifier.FINAL));
        wrong += check("it has no supertypes of its own",
                face.getSuperclass() == Object.class && face.getInterfaces().length == 0);
        wrong += check("one public constructor without parameters", hasOneConstructor(face));
        wrong += check("the document's methods", shownMethods(face).equals(new TreeSet<>(Arrays.asList(FACE))));
        wrong += check("no private method bears a public name", hasNamesOfItsOwn(face));
        wrong += check("fields are private, static ones final", hasHiddenFields(face));
        if (wrong != 0) {
            System.exit(1);
        }
        System.out.println("the face is the document's");
    }

    private static int check(String name, boolean holds) {
        if (!holds) {
            System.out.println("does not hold: " + name);
        }
        return holds ? 0 : 1;
    }

    private static boolean hasOneConstructor(Class<?> face) {
        Constructor<?>[] all = face.getDeclaredConstructors();
        return all.length == 1 && all[0].getParameterCount() == 0 && Modifier.isPublic(all[0].getModifiers());
    }

    private static Set<String> shownMethods(Class<?> face) {
        Set<String> shown = new TreeSet<>();
        for (Method method : face.getDeclaredMethods()) {
            if (!Modifier.isPrivate(method.getModifiers())) {
                String parameters = Arrays.toString(method.getParameterTypes());
                shown.add(Modifier.toString(method.getModifiers()) + " " + method.getReturnType() + " "
                        + method.getName() + "(" + parameters.substring(1, parameters.length() - 1) + ")"
                        + shownExceptions(method));
            }
        }
        return shown;
    }

    private static String shownExceptions(Method method) {
        StringBuilder shown = new StringBuilder();
        for (Class<?> exception : method.getExceptionTypes()) {
            shown.append(shown.length() == 0 ? " throws " : ", ").append(exception.getSimpleName());
        }
        return shown.toString();
    }

    private static boolean hasNamesOfItsOwn(Class<?> face) {
        for (Method method : face.getDeclaredMethods()) {
            for (String shown : FACE) {
                if (Modifier.isPrivate(method.getModifiers()) && shown.contains(" " + method.getName() + "(")) {
                    return false;
                }
            }
        }
        return true;
    }

    private static boolean hasHiddenFields(Class<?> face) {
        for (Field field : face.getDeclaredFields()) {
            int modifiers = field.getModifiers();
            if (!Modifier.isPrivate(modifiers) || Modifier.isStatic(modifiers) && !Modifier.isFinal(modifiers)) {
                return false;
            }
        }
        return true;
    }
}
