import java.io.IOException;
import java.lang.reflect.Method;
import java.lang.reflect.Modifier;
import java.nio.file.Files;
import java.nio.file.Path;
import java.util.List;
import java.util.Set;
import java.util.TreeSet;
import java.util.regex.Matcher;
import java.util.regex.Pattern;

/** README.md's example is carried out: each call answers what the line tells, and every call of the face is shown. */
public final class ReadmeTest {
    private static final Pattern MAKING = Pattern.compile("TreeDesk desk = new TreeDesk\\((\\d+), (\\d+)\\);.*");
    private static final Pattern CALL = Pattern.compile("desk\\.(\\w+)\\(([^)]*)\\); +// (-?\\w+)(: .*)?");
    private static final Set<String> SHOWN = new TreeSet<>();

    private static TreeDesk desk;

    private static Method named(String name) {
        for (Method method : TreeDesk.class.getMethods()) {
            if (method.getName().equals(name) && method.getDeclaringClass() == TreeDesk.class) {
                return method;
            }
        }
        throw new IllegalArgumentException("README.md shows a call that is not of the face: " + name);
    }

    private static long number(String text) {
        return Long.decode(text.endsWith("L") ? text.substring(0, text.length() - 1) : text);
    }

    private static Object[] arguments(Method method, String text) {
        String[] parts = text.isEmpty() ? new String[0] : text.split(", ");
        Object[] values = new Object[parts.length];
        for (int i = 0; i < parts.length; i++) {
            long value = number(parts[i]);
            if (method.getParameterTypes()[i] == int.class) {
                values[i] = Math.toIntExact(value);
            } else {
                values[i] = value;
            }
        }
        return values;
    }

    private static void carryOut(String line) throws ReflectiveOperationException {
        Matcher making = MAKING.matcher(line);
        Matcher call = CALL.matcher(line);
        if (making.matches()) {
            desk = new TreeDesk(Integer.parseInt(making.group(1)), Integer.parseInt(making.group(2)));
        } else if (call.matches()) {
            Method method = named(call.group(1));
            Number got = (Number) method.invoke(desk, arguments(method, call.group(2)));
            Check.due("README.md: " + line, got.longValue(), number(call.group(3)));
            SHOWN.add(method.getName());
        } else {
            throw new IllegalArgumentException("README.md has a line that tells no answer: " + line);
        }
    }

    private static List<String> example() throws IOException {
        List<String> lines = Files.readAllLines(Path.of("README.md"));
        int begin = lines.indexOf("```java") + 1;
        List<String> rest = lines.subList(begin, lines.size());
        return rest.subList(0, rest.indexOf("```"));
    }

    public static void main(String[] args) throws IOException, ReflectiveOperationException {
        for (String line : example()) {
            carryOut(line);
        }
        for (Method method : TreeDesk.class.getDeclaredMethods()) {
            if (Modifier.isPublic(method.getModifiers())) {
                Check.due("README.md shows " + method.getName(), SHOWN.contains(method.getName()) ? 1 : 0, 1);
            }
        }
        Check.end();
    }
}
