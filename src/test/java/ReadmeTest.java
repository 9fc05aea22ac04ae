import java.io.IOException;
import java.lang.reflect.InvocationTargetException;
import java.lang.reflect.Method;
import java.lang.reflect.Modifier;
import java.nio.file.Files;
import java.nio.file.Path;
import java.util.List;
import java.util.Set;
import java.util.TreeSet;
import java.util.regex.Matcher;
import java.util.regex.Pattern;

/** Makes the calls of README.md's example, so that what it tells its reader holds. */
public final class ReadmeTest {
    private static final String NEW = "StateTypes x = new StateTypes();";
    private static final Pattern CALL = Pattern.compile("x\\.(\\w+)\\(([^)]*)\\); +// (.+)");
    private static final Pattern ANSWER = Pattern.compile("(-?\\d+|true|false|throws \\w+)(:.*)?");
    private static final int FEWEST_CALLS = 30;

    private static int wrong = 0;

    private static void due(boolean holds, String what) {
        if (!holds) {
            wrong++;
            System.out.println("not as due: " + what);
        }
    }

    private static List<String> example() throws IOException {
        String text = Files.readString(Path.of("README.md"));
        int from = text.indexOf("```java\n");
        int to = text.indexOf("```", from + 3);
        due(from >= 0 && to > from, "README.md has an example");
        return from >= 0 && to > from ? text.substring(from, to).lines().skip(1).toList() : List.of();
    }

    private static Method methodOf(String name) {
        for (Method m : StateTypes.class.getMethods()) {
            if (m.getDeclaringClass() == StateTypes.class && m.getName().equals(name)) {
                return m;
            }
        }
        throw new IllegalArgumentException("README.md calls " + name + ", which is not there");
    }

    private static Object[] valuesOf(String arguments) {
        String[] texts = arguments.isEmpty() ? new String[0] : arguments.split(", ");
        Object[] values = new Object[texts.length];
        for (int i = 0; i < texts.length; i++) {
            values[i] = texts[i].equals("true") || texts[i].equals("false")
                    ? (Object) Boolean.valueOf(texts[i]) : (Object) Integer.valueOf(texts[i]);
        }
        return values;
    }

    private static String answerOf(StateTypes x, Method m, String arguments) throws IllegalAccessException {
        try {
            return String.valueOf(m.invoke(x, valuesOf(arguments)));
        } catch (InvocationTargetException e) {
            return "throws " + e.getCause().getClass().getSimpleName();
        }
    }

    private static void look(StateTypes x, String line, Matcher call) throws IllegalAccessException {
        Method m = methodOf(call.group(1));
        String got = answerOf(x, m, call.group(2));
        if (m.getReturnType() != void.class) {
            Matcher told = ANSWER.matcher(call.group(3));
            due(told.matches() && got.equals(told.group(1)), line + " (answered " + got + ")");
        }
    }

    public static void main(String[] args) throws IOException, IllegalAccessException {
        StateTypes x = new StateTypes();
        Set<String> called = new TreeSet<>();
        int calls = 0;
        for (String line : example()) {
            Matcher call = CALL.matcher(line);
            if (call.matches()) {
                look(x, line, call);
                called.add(call.group(1));
                calls++;
            } else {
                due(line.isEmpty() || line.equals(NEW), "a line that is no call with its answer: " + line);
            }
        }
        due(calls >= FEWEST_CALLS, "only " + calls + " calls were found");
        for (Method m : StateTypes.class.getDeclaredMethods()) {
            due(!Modifier.isPublic(m.getModifiers()) || called.contains(m.getName()), m.getName() + " is shown");
        }
        System.out.println(wrong == 0 ? "README.md tells what is so" : wrong + " things are not as due");
        if (wrong != 0) {
            System.exit(1);
        }
    }
}
