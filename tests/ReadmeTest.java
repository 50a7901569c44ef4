import java.io.IOException;
import java.lang.reflect.InvocationTargetException;
import java.lang.reflect.Method;
import java.lang.reflect.Modifier;
import java.nio.file.Files;
import java.nio.file.Path;
import java.util.HashSet;
import java.util.List;
import java.util.Set;
import java.util.regex.Matcher;
import java.util.regex.Pattern;

/** The calls that README.md shows answer what it says behind them, and it names every call. */
public final class ReadmeTest {
    private static final Pattern CALL = Pattern.compile("cat\\.(\\w+)\\(([^)]*)\\);\\s*// (-?\\d+)\\b.*");
    private static final Checks CHECKS = new Checks();

    public static void main(String[] args) throws IOException, ReflectiveOperationException {
        Path root = Path.of(System.getProperty("source")).resolve("../../../..").normalize();
        List<String> lines = Files.readAllLines(root.resolve("README.md"));
        CatThatTurns cat = new CatThatTurns();
        Set<String> shown = new HashSet<>();
        for (String line : lines) {
            Matcher call = CALL.matcher(line);
            if (call.matches()) {
                shown.add(call.group(1));
                CHECKS.due(line, answer(cat, call.group(1), call.group(2)), Long.parseLong(call.group(3)));
            } else if (line.startsWith("cat.")) {
                CHECKS.due("a call with its answer behind it in: " + line, 0, 1);
            }
        }
        for (Method method : CatThatTurns.class.getDeclaredMethods()) {
            if (Modifier.isPublic(method.getModifiers())) {
                CHECKS.due(method.getName() + " shown in README.md", shown.contains(method.getName()) ? 1 : 0, 1);
            }
        }
        CHECKS.end();
    }

    private static long answer(CatThatTurns cat, String name, String told) throws ReflectiveOperationException {
        String[] numbers = told.isEmpty() ? new String[0] : told.split(", ");
        for (Method method : CatThatTurns.class.getDeclaredMethods()) {
            if (method.getName().equals(name) && method.getParameterCount() == numbers.length) {
                Object[] values = new Object[numbers.length];
                for (int i = 0; i < values.length; i++) {
                    values[i] = method.getParameterTypes()[i] == long.class
                            ? (Object) Long.decode(numbers[i].replace("L", "")) : (Object) Integer.decode(numbers[i]);
                }
                try {
                    return ((Number) method.invoke(cat, values)).longValue();
                } catch (InvocationTargetException thrown) {
                    throw new IllegalStateException(name + "(" + told + ") threw", thrown.getCause());
                }
            }
        }
        throw new IllegalStateException("no such call: " + name + "(" + told + ")");
    }
}
