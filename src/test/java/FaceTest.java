import java.lang.reflect.Constructor;
import java.lang.reflect.Field;
import java.lang.reflect.Method;
import java.lang.reflect.Modifier;
import java.util.ArrayList;
import java.util.Collections;
import java.util.List;

/** The face of the class is the document's, and nothing else of it can be seen. */
final class FaceTest {
    private static final String INDEX = " IndexOutOfBoundsException";
    private static final String ARGUMENT = " IllegalArgumentException";
    private static final String STATE = " IllegalStateException";
    private static final String NO_SUCH = " NoSuchElementException";

    public static void main(String[] args) {
        Checks.part("public face");
        Checks.is("public final", () -> Modifier.toString(WaterWorks.class.getModifiers()));
        Checks.is(face(), () -> seen());
        Checks.is(-1, () -> WaterWorks.NONE);
        Checks.is("", () -> openNested());
        Checks.end();
    }

    private static String face() {
        List<String> face = new ArrayList<>();
        face.add("public WaterWorks()");
        face.add("public static final int NONE");
        face.add("public int node()" + STATE);
        face.add("public int pipe(int int int)" + INDEX + ARGUMENT + STATE);
        face.add("public boolean source(int boolean)" + INDEX);
        face.add("public int customer(int)" + INDEX + STATE);
        face.add("public boolean turn(int int boolean)" + INDEX + NO_SUCH + STATE);
        face.add("public boolean stick(int int boolean)" + INDEX + NO_SUCH);
        face.add("public boolean fed(int)" + INDEX);
        face.add("public int shutOff(int)" + INDEX);
        face.add("public int plan(int int)" + INDEX);
        face.add("public int dry(int)" + INDEX);
        face.add("public int carryOut(int)" + INDEX);
        face.add("public int pass(int)" + ARGUMENT);
        face.add("public int install(int int int)" + INDEX + ARGUMENT + STATE);
        face.add("public int read(int int)" + INDEX + STATE + ARGUMENT);
        face.add("public int amend(int int int)" + INDEX + NO_SUCH + ARGUMENT);
        face.add("public int used(int int int)" + INDEX + ARGUMENT + NO_SUCH);
        face.add("public int tariff(int long)" + ARGUMENT + STATE);
        face.add("public long bill(int int)" + INDEX + ARGUMENT + STATE + NO_SUCH);
        face.add("public long correct(int)" + INDEX + NO_SUCH);
        face.add("public long pay(int int)" + INDEX + ARGUMENT);
        Collections.sort(face);
        return String.join("\n", face);
    }

    private static String seen() {
        List<String> seen = new ArrayList<>();
        for (Constructor<?> c : WaterWorks.class.getDeclaredConstructors()) {
            add(seen, c.getModifiers(), "WaterWorks" + types(c.getParameterTypes()));
        }
        for (Field f : WaterWorks.class.getDeclaredFields()) {
            add(seen, f.getModifiers(), f.getType().getSimpleName() + " " + f.getName());
        }
        for (Method m : WaterWorks.class.getDeclaredMethods()) {
            StringBuilder text = new StringBuilder(m.getReturnType().getSimpleName());
            text.append(' ').append(m.getName()).append(types(m.getParameterTypes()));
            for (Class<?> e : m.getExceptionTypes()) {
                text.append(' ').append(e.getSimpleName());
            }
            add(seen, m.getModifiers(), text.toString());
        }
        Collections.sort(seen);
        return String.join("\n", seen);
    }

    private static void add(List<String> seen, int modifiers, String text) {
        if (!Modifier.isPrivate(modifiers)) {
            seen.add(Modifier.toString(modifiers) + " " + text);
        }
    }

    private static String types(Class<?>[] types) {
        List<String> names = new ArrayList<>();
        for (Class<?> t : types) {
            names.add(t.getSimpleName());
        }
        return "(" + String.join(" ", names) + ")";
    }

    /** Classes inside that are public, protected or not static. */
    private static String openNested() {
        StringBuilder open = new StringBuilder();
        for (Class<?> c : WaterWorks.class.getDeclaredClasses()) {
            int m = c.getModifiers();
            if (Modifier.isPublic(m) || Modifier.isProtected(m) || !Modifier.isStatic(m)) {
                open.append(c.getSimpleName()).append(' ');
            }
        }
        return open.toString();
    }
}
