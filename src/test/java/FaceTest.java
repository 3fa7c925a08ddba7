import java.lang.reflect.Constructor;
import java.lang.reflect.Field;
import java.lang.reflect.Method;
import java.lang.reflect.Modifier;
import java.util.Set;
import java.util.TreeSet;

/** The public face is the document's, and nothing but it can be seen from outside. */
public final class FaceTest {
    private static final String[] METHODS = {
        "setTop 1", "lay 2", "take 1", "put 1", "remove 1", "join 0", "roll 1", "pass 0",
        "climber 2", "turn 0", "on 1", "step 2", "total 1", "rank 1", "ifRolled 2", "bestRoll 0",
        "quietRolls 0", "rollsToTop 1", "append 1", "clearText 0", "errorPosition 0", "play 0",
        "undo 0", "save 0", "restore 0"
    };
    private static final String[] CONSTANTS = {
        "NO_SUCH -1", "BAD_VALUE -2", "NOT_POSSIBLE -3", "LIMIT -4", "BAD_TEXT -5", "NONE -6"
    };

    private static boolean failed = false;

    public static void main(String[] args) throws Exception {
        same("methods", new TreeSet<>(Set.of(METHODS)), visibleMethods());
        same("constants", new TreeSet<>(Set.of(CONSTANTS)), visibleFields());
        Constructor<?>[] constructors = LiftingStairs.class.getDeclaredConstructors();
        same("constructors", 1, constructors.length);
        same("constructor's parameters", 0, constructors[0].getParameterCount());
        same("class is public and final", true, isPublicFinal(LiftingStairs.class.getModifiers()));
        if (failed) {
            System.exit(1);
        }
        System.out.println("the face is as due");
    }

    private static Set<String> visibleMethods() {
        Set<String> found = new TreeSet<>();
        for (Method method : LiftingStairs.class.getDeclaredMethods()) {
            if (!Modifier.isPrivate(method.getModifiers()) && !method.isSynthetic()) {
                same(method.getName() + " answers an int", int.class, method.getReturnType());
                for (Class<?> type : method.getParameterTypes()) {
                    same(method.getName() + " takes ints", int.class, type);
                }
                found.add(method.getName() + " " + method.getParameterCount());
            }
        }
        return found;
    }

    private static Set<String> visibleFields() throws IllegalAccessException {
        Set<String> found = new TreeSet<>();
        for (Field field : LiftingStairs.class.getDeclaredFields()) {
            if (!Modifier.isPrivate(field.getModifiers()) && !field.isSynthetic()) {
                found.add(field.getName() + " " + field.getInt(null));
            }
        }
        return found;
    }

    private static boolean isPublicFinal(int modifiers) {
        return Modifier.isPublic(modifiers) && Modifier.isFinal(modifiers);
    }

    private static void same(String what, Object due, Object got) {
        if (!due.equals(got)) {
            System.out.println(what + ": " + got + ", due is " + due);
            failed = true;
        }
    }
}
