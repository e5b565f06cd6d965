import java.lang.reflect.Constructor;
import java.lang.reflect.Field;
import java.lang.reflect.Method;
import java.lang.reflect.Modifier;
import java.util.Arrays;
import java.util.Set;
import java.util.TreeSet;

/** The class shows the document's face, and nothing beside it. */
public final class FaceTest {
    private static final String[] FACE = {
        "public int begin()",
        "public int cook(int, int, int)",
        "public int finish(int)",
        "public int drop(int)",
        "public int shelve(int)",
        "public int blow()",
        "public int fall()",
        "public int pot(int, int)",
        "public int dish(int, int)",
        "public int line(int, int)",
        "public int count(int)",
        "public int would(int)",
        "public int left(int)",
        "public double mean()",
        "public long digest()",
    };

    public static void main(String[] args) {
        Class<?> face = ChalkSlate.class;
        int wrong = 0;
        wrong += check("the class is public and final", face.getModifiers() == (Modifier.PUBLIC | Modifier.FINAL));
        wrong += check("it has no supertypes of its own",
                face.getSuperclass() == Object.class && face.getInterfaces().length == 0);
        wrong += check("one public constructor without parameters", hasOneConstructor(face));
        wrong += check("the document's methods", shownMethods(face).equals(new TreeSet<>(Arrays.asList(FACE))));
        wrong += check("no private method bears a public name", hasNamesOfItsOwn(face));
        wrong += check("fields are private, static ones final", hasHiddenFields(face));
        if (wrong != 0) {
            System.exit(1);
        }
        System.out.println("the face is the document's");
    }

    private static int check(String name, boolean holds) {
        if (!holds) {
            System.out.println("does not hold: " + name);
        }
        return holds ? 0 : 1;
    }

    private static boolean hasOneConstructor(Class<?> face) {
        Constructor<?>[] all = face.getDeclaredConstructors();
        return all.length == 1 && all[0].getParameterCount() == 0 && Modifier.isPublic(all[0].getModifiers());
    }

    private static Set<String> shownMethods(Class<?> face) {
        Set<String> shown = new TreeSet<>();
        for (Method method : face.getDeclaredMethods()) {
            if (!Modifier.isPrivate(method.getModifiers())) {
                String parameters = Arrays.toString(method.getParameterTypes());
                shown.add(Modifier.toString(method.getModifiers()) + " " + method.getReturnType() + " "
                        + method.getName() + "(" + parameters.substring(1, parameters.length() - 1) + ")");
            }
        }
        return shown;
    }

    private static boolean hasNamesOfItsOwn(Class<?> face) {
        for (Method method : face.getDeclaredMethods()) {
            for (String shown : FACE) {
                if (Modifier.isPrivate(method.getModifiers()) && shown.contains(" " + method.getName() + "(")) {
                    return false;
                }
            }
        }
        return true;
    }

    private static boolean hasHiddenFields(Class<?> face) {
        for (Field field : face.getDeclaredFields()) {
            int modifiers = field.getModifiers();
            if (!Modifier.isPrivate(modifiers) || Modifier.isStatic(modifiers) && !Modifier.isFinal(modifiers)) {
                return false;
            }
        }
        return true;
    }
}
