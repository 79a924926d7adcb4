import java.lang.reflect.Constructor;
import java.lang.reflect.Field;
import java.lang.reflect.Method;
import java.lang.reflect.Modifier;
import java.util.Set;
import java.util.TreeSet;

/** The public face is the document's, and nothing of the class but its own classes is to be seen beside it. */
public final class FaceTest {
    private static final String[] METHODS = {
        "add(int)", "at(int,int)", "bestColumn()", "book(int,int)", "byValue(int)", "carryOut()", "coins(int)",
        "costs(int)", "count(int)", "fault()", "ifPlayed(int,int)", "lighter(int)", "load(int,int)", "of(int,int)",
        "play(int,int)", "prize(int,int,int)", "put(long)", "restore(int)", "save(int)", "set(int,int)", "undo()",
        "untilFull()", "wipe()"};
    private static final String[] CONSTANTS = {
        "NO_SUCH=-1", "BAD_VALUE=-2", "BAD_TEXT=-3", "TOO_MANY=-4", "NOT_POSSIBLE=-5", "NONE=-6",
        "COIN=0", "DUE=1", "WEAK=2", "FULL=3", "SLIP=4", "LACK=5"};

    public static void main(String[] args) throws IllegalAccessException {
        Class<?> face = ClawCranes.class;
        Check.holds("the class is public and final",
                Modifier.isPublic(face.getModifiers()) && Modifier.isFinal(face.getModifiers()));
        methods(face);
        constants(face);
        for (Constructor<?> constructor : face.getDeclaredConstructors()) {
            Check.holds("the constructor is public and takes nothing",
                    Modifier.isPublic(constructor.getModifiers()) && constructor.getParameterCount() == 0);
        }
        for (Class<?> inner : face.getDeclaredClasses()) {
            Check.holds(inner + " is static", Modifier.isStatic(inner.getModifiers()));
            for (Method method : inner.getDeclaredMethods()) {
                Check.holds(method + " has a name of its own", !isPublicName(method.getName()));
            }
        }
        Check.end();
    }

    private static void methods(Class<?> face) {
        Set<String> found = new TreeSet<>();
        for (Method method : face.getDeclaredMethods()) {
            if (Modifier.isPrivate(method.getModifiers())) {
                Check.holds(method + " has a name of its own", !isPublicName(method.getName()));
                continue;
            }
            StringBuilder types = new StringBuilder();
            for (Class<?> type : method.getParameterTypes()) {
                types.append(types.length() == 0 ? "" : ",").append(type.getName());
            }
            found.add(method.getName() + "(" + types + ")");
            Check.holds(method + " is public and answers an int",
                    Modifier.isPublic(method.getModifiers()) && method.getReturnType() == int.class);
        }
        Check.holds("the methods are the document's: " + found, found.equals(new TreeSet<>(Set.of(METHODS))));
    }

    private static void constants(Class<?> face) throws IllegalAccessException {
        Set<String> found = new TreeSet<>();
        for (Field field : face.getDeclaredFields()) {
            if (!Modifier.isPrivate(field.getModifiers())) {
                Check.holds(field + " is a public constant", Modifier.isPublic(field.getModifiers())
                        && Modifier.isStatic(field.getModifiers()) && Modifier.isFinal(field.getModifiers()));
                found.add(field.getName() + "=" + field.getInt(null));
            }
        }
        Check.holds("the constants are the document's: " + found, found.equals(new TreeSet<>(Set.of(CONSTANTS))));
    }

    private static boolean isPublicName(String name) {
        for (String method : METHODS) {
            if (method.startsWith(name + "(")) {
                return true;
            }
        }
        return false;
    }
}
