import java.io.IOException;
import java.lang.reflect.InvocationTargetException;
import java.lang.reflect.Method;
import java.lang.reflect.Modifier;
import java.nio.file.Files;
import java.nio.file.Path;
import java.util.List;
import java.util.regex.Matcher;
import java.util.regex.Pattern;

/** The README's examples answer what stands behind them, and it names every call; it runs where README.md is. */
public final class ReadmeTest {
    private static final Pattern NEW = Pattern.compile("JoinedLight x = new JoinedLight\\(\\);");
    private static final Pattern WRITE = Pattern.compile("write\\(x, \"([ -~]*)\"\\);");
    private static final Pattern CALL = Pattern.compile("x\\.(\\w+)\\(([-0-9, ]*)\\); +// (-?\\d+|[A-Z_]+): .+");

    private JoinedLight x = null;
    private int calls = 0;

    public static void main(String[] args) throws IOException, ReflectiveOperationException {
        List<String> readme = Files.readAllLines(Path.of("README.md"));
        Due.part("README: the examples");
        ReadmeTest test = new ReadmeTest();
        boolean inside = false;
        for (String line : readme) {
            boolean helper = line.startsWith("static ");
            if (line.startsWith("```")) {
                inside = line.equals("```java");
            } else if (inside && helper) {
                inside = false;
            } else if (inside) {
                test.run(line);
            }
        }
        Due.holds("there are only " + test.calls + " calls in the examples", test.calls >= 20);
        namesEveryCall(String.join("\n", readme));
        Due.end();
    }

    private void run(String line) throws ReflectiveOperationException {
        Matcher write = WRITE.matcher(line);
        Matcher call = CALL.matcher(line);
        if (NEW.matcher(line).matches()) {
            x = new JoinedLight();
        } else if (x != null && write.matches()) {
            Scene.write(x, write.group(1));
        } else if (x != null && call.matches()) {
            calls++;
            Due.due(line, answer(call.group(1), call.group(2)), wanted(call.group(3)));
        } else {
            Due.holds("it is not clear what is to be done for: " + line, false);
        }
    }

    private int answer(String name, String arguments) throws ReflectiveOperationException {
        String[] parts = arguments.isBlank() ? new String[0] : arguments.split(", ");
        Object[] values = new Object[parts.length];
        Class<?>[] types = new Class<?>[parts.length];
        for (int i = 0; i < parts.length; i++) {
            values[i] = Integer.valueOf(parts[i]);
            types[i] = int.class;
        }
        try {
            return (Integer) JoinedLight.class.getMethod(name, types).invoke(x, values);
        } catch (InvocationTargetException thrown) {
            throw new IllegalStateException(name + " threw", thrown);
        }
    }

    private static int wanted(String text) {
        return switch (text) {
            case "INVALID_ARGUMENT" -> Due.INVALID;
            case "NOT_POSSIBLE" -> Due.NOT_POSSIBLE;
            case "LIMIT_REACHED" -> Due.LIMIT;
            case "NOT_FOUND" -> Due.NOT_FOUND;
            default -> Integer.parseInt(text);
        };
    }

    /** Each call stands in the table with as many arguments as it takes. */
    private static void namesEveryCall(String readme) {
        Due.part("README: the calls");
        for (Method method : JoinedLight.class.getDeclaredMethods()) {
            if (Modifier.isPublic(method.getModifiers())) {
                int arguments = method.getParameterCount();
                String names = arguments == 0 ? "" : "\\w+" + "(, \\w+)".repeat(arguments - 1);
                Pattern named = Pattern.compile("`" + method.getName() + "\\(" + names + "\\)`");
                Due.holds(method.getName() + " is not named with its arguments", named.matcher(readme).find());
            }
        }
    }
}
