import java.lang.reflect.Constructor;
import java.lang.reflect.Field;
import java.lang.reflect.Method;
import java.lang.reflect.Modifier;
import java.util.Arrays;
import java.util.Set;
import java.util.TreeSet;

/** The public face is the document's, no more and no less. */
public final class FaceTest {
    private static final Set<String> FACE = new TreeSet<>(Arrays.asList(
            "int add(int, long, long)", "int spoil(int)", "long must(int)", "long median(int)",
            "long look(int, int)", "long work(int, int)", "int compare(int, int)", "int tip()", "int size()",
            "int below(int, int)", "int fork(int, int)", "int row(int, int)", "int fault(long)",
            "long target(long, int)", "long compact(long, long, long, long)"));

    private static String told(Method method) {
        StringBuilder text = new StringBuilder();
        for (Class<?> type : method.getParameterTypes()) {
            text.append(text.length() == 0 ? "" : ", ").append(type.getName());
        }
        return method.getReturnType().getName() + " " + method.getName() + "(" + text + ")";
    }

    private static void methods() {
        Set<String> seen = new TreeSet<>();
        Set<String> names = new TreeSet<>();
        for (Method method : TreeDesk.class.getDeclaredMethods()) {
            if (!Modifier.isPrivate(method.getModifiers())) {
                Check.due("public " + told(method), Modifier.isPublic(method.getModifiers()) ? 1 : 0, 1);
                Check.due("static " + told(method), Modifier.isStatic(method.getModifiers()) ? 1 : 0, 0);
                seen.add(told(method));
                names.add(method.getName());
            }
        }
        Check.due("the face is " + seen, seen.equals(FACE) ? 1 : 0, 1);
        for (Method method : TreeDesk.class.getDeclaredMethods()) {
            if (Modifier.isPrivate(method.getModifiers())) {
                Check.due("a private " + method.getName(), names.contains(method.getName()) ? 1 : 0, 0);
            }
        }
    }

    /** What is static and can change would be shared by all objects. */
    private static void statics(Class<?> type) {
        for (Field field : type.getDeclaredFields()) {
            int modifiers = field.getModifiers();
            boolean shared = Modifier.isStatic(modifiers) && !(Modifier.isFinal(modifiers) && field.getType().isPrimitive());
            Check.due("a shared field " + type.getName() + "." + field.getName(), shared ? 1 : 0, 0);
        }
    }

    public static void main(String[] args) {
        int modifiers = TreeDesk.class.getModifiers();
        Check.due("public final class", Modifier.isPublic(modifiers) && Modifier.isFinal(modifiers) ? 1 : 0, 1);
        Constructor<?>[] constructors = TreeDesk.class.getDeclaredConstructors();
        Check.due("constructors", constructors.length, 1);
        Check.due("constructor (int, int)",
                Arrays.equals(constructors[0].getParameterTypes(), new Class<?>[] {int.class, int.class}) ? 1 : 0, 1);
        Check.due("public constructor", Modifier.isPublic(constructors[0].getModifiers()) ? 1 : 0, 1);
        methods();
        for (Field field : TreeDesk.class.getDeclaredFields()) {
            Check.due("private field " + field.getName(), Modifier.isPrivate(field.getModifiers()) ? 1 : 0, 1);
        }
        for (Class<?> inside : TreeDesk.class.getDeclaredClasses()) {
            boolean hidden = !Modifier.isPublic(inside.getModifiers()) && !Modifier.isProtected(inside.getModifiers());
            Check.due("hidden class " + inside.getName(), hidden ? 1 : 0, 1);
            statics(inside);
        }
        statics(TreeDesk.class);
        Check.end();
    }
}
