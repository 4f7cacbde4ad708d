import java.lang.reflect.Constructor;
import java.lang.reflect.Field;
import java.lang.reflect.Member;
import java.lang.reflect.Method;
import java.lang.reflect.Modifier;
import java.util.Arrays;
import java.util.TreeSet;

/** The public face: what the document's code names, and nothing else. */
public final class FaceTest {
    private static final String[] FACE = {"back(int)int", "chord(int, int)int", "count(int)int", "deed(int, int, int)int",
        "does(int, int)int", "event(int, int)int", "feed(int, int, int, int, int)int", "ghosts(int, int)int",
        "ahead(int, int)int", "hold(int)boolean", "host(int)int", "key(int, int)int", "macro(int, int)int", "place()int",
        "press(int, boolean)boolean", "read()int", "report(int, int)int", "restore(int)boolean", "sent(int)int",
        "strokes(int, int)int", "tick(int)int"};

    private FaceTest() {
    }

    public static void main(String[] args) throws ReflectiveOperationException {
        classAndConstructor();
        methods();
        constants();
        classesInside();
        Checks.close();
    }

    private static boolean isPrivate(Member member) {
        return Modifier.isPrivate(member.getModifiers()) || member.isSynthetic();
    }

    private static void classAndConstructor() {
        Checks.sentence("public final class KeyMatrix; public KeyMatrix()");
        Checks.due("modifiers", KeyMatrix.class.getModifiers(), Modifier.PUBLIC | Modifier.FINAL);
        Constructor<?>[] constructors = KeyMatrix.class.getDeclaredConstructors();
        Checks.due("constructors", constructors.length, 1);
        Checks.due("its modifiers", constructors[0].getModifiers(), Modifier.PUBLIC);
        Checks.due("its parameters", constructors[0].getParameterCount(), 0);
    }

    private static void methods() {
        Checks.sentence("The public face: methods");
        TreeSet<String> found = new TreeSet<>();
        TreeSet<String> names = new TreeSet<>();
        for (Method method : KeyMatrix.class.getDeclaredMethods()) {
            if (Modifier.isPublic(method.getModifiers())) {
                String parameters = Arrays.toString(method.getParameterTypes());
                found.add(method.getName() + "(" + parameters.substring(1, parameters.length() - 1) + ")" + method.getReturnType());
                names.add(method.getName());
                Checks.due(method + " has modifiers", method.getModifiers(), Modifier.PUBLIC);
                Checks.due(method + " declares exceptions", method.getExceptionTypes().length, 0);
            }
        }
        Checks.yes("methods " + found, found.equals(new TreeSet<>(Arrays.asList(FACE))));
        for (Method method : KeyMatrix.class.getDeclaredMethods()) {
            if (!Modifier.isPublic(method.getModifiers())) {
                Checks.yes(method + " is private", isPrivate(method));
                Checks.no(method + " bears a public one's name", names.contains(method.getName()));
            }
        }
    }

    private static void constants() throws ReflectiveOperationException {
        Checks.sentence("public static final int NONE = -1");
        for (Field field : KeyMatrix.class.getDeclaredFields()) {
            if (field.getName().equals("NONE")) {
                Checks.due("modifiers", field.getModifiers(), Modifier.PUBLIC | Modifier.STATIC | Modifier.FINAL);
                Checks.due("NONE", field.getInt(null), -1);
            } else {
                Checks.yes(field + " is private", isPrivate(field));
            }
        }
        Checks.due("NONE", KeyMatrix.NONE, -1);
    }

    private static void classesInside() {
        Checks.sentence("the classes inside it, which are private or package-visible and static");
        for (Class<?> inside : KeyMatrix.class.getDeclaredClasses()) {
            Checks.yes(inside + " is static", Modifier.isStatic(inside.getModifiers()));
            Checks.no(inside + " is public", Modifier.isPublic(inside.getModifiers()));
            Checks.no(inside + " is protected", Modifier.isProtected(inside.getModifiers()));
        }
    }
}
