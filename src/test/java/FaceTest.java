import java.lang.reflect.Constructor;
import java.lang.reflect.Field;
import java.lang.reflect.Method;
import java.lang.reflect.Modifier;
import java.util.Arrays;
import java.util.List;
import java.util.Set;
import java.util.TreeSet;
import java.util.stream.Collectors;

/** The face of the document: its constants, its constructor and methods, and no other member that others see. */
final class FaceTest {
    private static final Due due = new Due("FaceTest");

    private static final Set<String> METHODS = new TreeSet<>(List.of(
            "int append(int,int,int,int,int)",
            "int load(int) IllegalArgumentException",
            "int errorOffset()",
            "int state(int) IllegalArgumentException",
            "int handler(int,int) IndexOutOfBoundsException,IllegalArgumentException",
            "int line(int,int) IndexOutOfBoundsException,IllegalArgumentException",
            "int tenant(int,int) IndexOutOfBoundsException,NoSuchElementException",
            "int request(int,int) IndexOutOfBoundsException,IllegalArgumentException",
            "int calm(int) IndexOutOfBoundsException",
            "int endsAt(int) IndexOutOfBoundsException",
            "int bankruptIn(int) IndexOutOfBoundsException",
            "int finesIn(int) IllegalArgumentException",
            "int advise(int) IndexOutOfBoundsException",
            "int pass(int) IllegalArgumentException",
            "int raise(int,int) IndexOutOfBoundsException,IllegalArgumentException,IllegalStateException",
            "int lease(int,int) IndexOutOfBoundsException",
            "int release(int,int) IndexOutOfBoundsException",
            "int fund(int,int) IndexOutOfBoundsException,IllegalArgumentException",
            "int undo()",
            "long checksum()"));

    public static void main(String[] args) throws IllegalAccessException {
        due.holds("the class is public and final", LineLeases.class.getModifiers() == (Modifier.PUBLIC | Modifier.FINAL));
        constants();
        Constructor<?>[] constructors = LineLeases.class.getDeclaredConstructors();
        due.holds("one public constructor without parameters", constructors.length == 1
                && constructors[0].getModifiers() == Modifier.PUBLIC && constructors[0].getParameterCount() == 0);
        Set<String> seen = new TreeSet<>();
        Set<String> names = new TreeSet<>();
        for (Method m : LineLeases.class.getDeclaredMethods()) {
            if (!Modifier.isPrivate(m.getModifiers())) {
                seen.add(face(m));
                names.add(m.getName());
                due.same("modifiers of " + m.getName(), Modifier.PUBLIC, m.getModifiers());
            }
        }
        due.holds("methods: " + seen, seen.equals(METHODS));
        noOtherMembers(names);
        due.end();
    }

    private static void constants() throws IllegalAccessException {
        due.same("SYNTAX_ERROR", -2, LineLeases.SYNTAX_ERROR);
        due.same("OUT_OF_RANGE", -3, LineLeases.OUT_OF_RANGE);
        due.same("REPEATED", -4, LineLeases.REPEATED);
        due.same("TOO_MANY", -5, LineLeases.TOO_MANY);
        due.same("TOO_DEEP", -6, LineLeases.TOO_DEEP);
        int seen = 0;
        for (Field f : LineLeases.class.getDeclaredFields()) {
            if (!Modifier.isPrivate(f.getModifiers())) {
                seen++;
                due.same("modifiers of " + f.getName(), Modifier.PUBLIC | Modifier.STATIC | Modifier.FINAL,
                        f.getModifiers());
                due.holds(f.getName() + " is an int", f.getType() == int.class && f.getInt(null) < -1);
            }
        }
        due.same("constants", 5, seen);
    }

    private static String face(Method m) {
        return m.getReturnType().getSimpleName() + " " + m.getName() + "("
                + Arrays.stream(m.getParameterTypes()).map(Class::getSimpleName).collect(Collectors.joining(",")) + ")"
                + (m.getExceptionTypes().length == 0 ? "" : " ") + Arrays.stream(m.getExceptionTypes())
                .map(Class::getSimpleName).collect(Collectors.joining(","));
    }

    private static void noOtherMembers(Set<String> publicNames) {
        for (Method m : LineLeases.class.getDeclaredMethods()) {
            due.holds("no private method bears the name of a public one: " + m.getName(),
                    !Modifier.isPrivate(m.getModifiers()) || !publicNames.contains(m.getName()));
        }
        for (Class<?> inside : LineLeases.class.getDeclaredClasses()) {
            int modifiers = inside.getModifiers();
            due.holds("not public or protected: " + inside, !Modifier.isPublic(modifiers) && !Modifier.isProtected(modifiers));
            due.holds("static: " + inside, Modifier.isStatic(modifiers));
            for (Method m : inside.getDeclaredMethods()) {
                due.holds("a name of the face inside: " + m, !publicNames.contains(m.getName()));
            }
        }
        due.holds("no class beside it", LineLeases.class.getInterfaces().length == 0
                && LineLeases.class.getSuperclass() == Object.class);
    }
}
