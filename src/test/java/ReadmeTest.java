import java.io.IOException;
import java.lang.reflect.Method;
import java.lang.reflect.Modifier;
import java.nio.file.Files;
import java.nio.file.Path;
import java.util.Set;
import java.util.TreeSet;
import java.util.regex.Matcher;
import java.util.regex.Pattern;

/** Makes every call that README.md shows, and compares the answer with the one that it tells behind the call. */
public final class ReadmeTest {
    private static final String NEW_DESK = "BrokerDesk desk = new BrokerDesk();";
    private static final Pattern CALL =
        Pattern.compile("desk\\.(\\w+)\\(([^)]*)\\);\\s+// (true|false|-?[0-9][0-9a-fA-FxL_]*)(:.*)?");

    private static BrokerDesk desk = null;
    private static final Set<String> shown = new TreeSet<>();

    public static void main(String[] args) throws IOException, ReflectiveOperationException {
        boolean inCode = false;
        int number = 0;
        for (String line : Files.readAllLines(Path.of("README.md"))) {
            number++;
            if (line.startsWith("```")) {
                inCode = line.equals("```java");
                desk = null;
            } else if (inCode && !line.isBlank() && !line.startsWith("//")) {
                make("README.md, line " + number, line);
            }
        }
        everyMethodIsShown();
        Check.end();
    }

    private static void make(String where, String line) throws ReflectiveOperationException {
        if (line.equals(NEW_DESK)) {
            desk = new BrokerDesk();
            return;
        }
        Matcher call = CALL.matcher(line);
        boolean told = call.matches() && desk != null;
        Check.due(where + " is a call with its answer: " + line, told, true);
        if (told) {
            shown.add(call.group(1));
            String what = where + ": " + call.group(1) + "(" + call.group(2) + ")";
            Check.due(what, answer(call.group(1), call.group(2).split(", ")), number(call.group(3)));
        }
    }

    private static long answer(String name, String[] arguments) throws ReflectiveOperationException {
        Method method = named(name);
        Class<?>[] types = method.getParameterTypes();
        Object[] values = new Object[types.length];
        for (int k = 0; k < types.length; k++) {
            long value = number(arguments[k]);
            if (types[k] == long.class) {
                values[k] = value;
            } else {
                values[k] = Math.toIntExact(value);
            }
        }
        Object answer = method.invoke(desk, values);
        return answer instanceof Boolean ? number(answer.toString()) : ((Number) answer).longValue();
    }

    private static Method named(String name) throws NoSuchMethodException {
        for (Method method : BrokerDesk.class.getDeclaredMethods()) {
            if (Modifier.isPublic(method.getModifiers()) && method.getName().equals(name)) {
                return method;
            }
        }
        throw new NoSuchMethodException(name);
    }

    private static long number(String told) {
        if (told.equals("true") || told.equals("false")) {
            return told.equals("true") ? 1 : 0;
        }
        return Long.decode(told.replaceAll("[L_]", ""));
    }

    private static void everyMethodIsShown() {
        for (Method method : BrokerDesk.class.getDeclaredMethods()) {
            if (Modifier.isPublic(method.getModifiers())) {
                Check.due(method.getName() + " is shown in README.md", shown.contains(method.getName()), true);
            }
        }
    }
}
