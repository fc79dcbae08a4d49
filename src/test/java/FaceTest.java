import java.lang.reflect.Constructor;
import java.lang.reflect.Field;
import java.lang.reflect.Method;
import java.lang.reflect.Modifier;
import java.util.List;
import java.util.TreeSet;

/** The public face: the document's constants, constructor and methods, and no other visible member. */
public final class FaceTest {
    public static void main(String[] args) {
        constants();
        members();
        Due.end();
    }

    private static void constants() {
        Due.due("OK", LayeredLauncher.OK, 0);
        Due.due("REFUSED", LayeredLauncher.REFUSED, -1);
        Due.due("FULL", LayeredLauncher.FULL, -2);
        Due.due("BAD", LayeredLauncher.BAD, -3);
        Due.due("MISSING", LayeredLauncher.MISSING, -4);
        Due.due("CONFLICT", LayeredLauncher.CONFLICT, -5);
    }

    private static void members() {
        TreeSet<String> want = new TreeSet<>(List.of(
                "OK", "REFUSED", "FULL", "BAD", "MISSING", "CONFLICT", "new[]",
                "type[int]", "wipe[]", "publish[]", "depend[int, boolean]", "exclude[int]",
                "pack[int, int, boolean]", "retire[int]", "compare[]", "resolve[]", "culprit[]",
                "entry[int]", "depth[int]", "parent[int]", "find[int, int]", "text[int, int]", "count[int]"));
        TreeSet<String> got = new TreeSet<>();
        for (Field f : LayeredLauncher.class.getDeclaredFields()) {
            if (!Modifier.isPrivate(f.getModifiers())) {
                got.add(f.getName());
            }
        }
        for (Constructor<?> c : LayeredLauncher.class.getDeclaredConstructors()) {
            if (!Modifier.isPrivate(c.getModifiers())) {
                got.add("new" + simpleNames(c.getParameterTypes()));
            }
        }
        for (Method m : LayeredLauncher.class.getDeclaredMethods()) {
            if (!Modifier.isPrivate(m.getModifiers())) {
                got.add(m.getName() + simpleNames(m.getParameterTypes()));
            }
        }
        Due.due("the face " + got + " is " + want, got.equals(want) ? 1 : 0, 1);
        Due.due("the class is final", Modifier.isFinal(LayeredLauncher.class.getModifiers()) ? 1 : 0, 1);
    }

    private static String simpleNames(Class<?>[] types) {
        return List.of(types).stream().map(Class::getSimpleName).toList().toString();
    }
}
