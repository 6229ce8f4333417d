import java.io.IOException;
import java.lang.reflect.Field;
import java.lang.reflect.Method;
import java.lang.reflect.Modifier;
import java.nio.file.Files;
import java.nio.file.Path;
import java.util.List;
import java.util.Map;
import java.util.Set;
import java.util.TreeMap;
import java.util.TreeSet;
import java.util.regex.Matcher;
import java.util.regex.Pattern;

/** The public face, and what of LANGUAGE.md can be seen from outside or in the words of the source. */
public final class FaceTest {
    private static final Set<String> FACE = new TreeSet<>(List.of(
        "boolean open(int)", "boolean shut(int)", "int feed(int, long, int)", "long take(int, int)",
        "int output(int, int)", "int past(int, int)", "int session(int, int)", "int subscription(int, int, int)",
        "int place(int, int)", "int item(int, int, int)", "int ready(int, int)", "int shortest(int, int)"));
    private static final Set<String> CONSTANTS = Set.of("SHUT", "OPEN", "CLOSING", "REFUSED");

    public static void main(String[] args) throws IOException {
        constants();
        methods();
        fields();
        String source = sourceWithoutComments();
        words(source);
        calls(source);
        Check.end();
    }

    private static void constants() {
        Check.due("SHUT", BrokerDesk.SHUT, 0);
        Check.due("OPEN", BrokerDesk.OPEN, 1);
        Check.due("CLOSING", BrokerDesk.CLOSING, 2);
        Check.due("REFUSED", BrokerDesk.REFUSED, -1);
    }

    private static void methods() {
        int modifiers = BrokerDesk.class.getModifiers();
        Check.due("public and final", Modifier.isPublic(modifiers) && Modifier.isFinal(modifiers), true);
        Check.due("one constructor", BrokerDesk.class.getDeclaredConstructors().length, 1);
        Check.due("no class inside", BrokerDesk.class.getDeclaredClasses().length, 0);
        Set<String> face = new TreeSet<>();
        Set<String> names = new TreeSet<>();
        for (Method method : BrokerDesk.class.getDeclaredMethods()) {
            boolean isPublic = Modifier.isPublic(method.getModifiers());
            Check.due(method + " is public or private", isPublic || Modifier.isPrivate(method.getModifiers()), true);
            Check.due(method + " has at most seven parameters", method.getParameterCount() <= 7, true);
            Check.due(method + " has a name of its own", names.add(method.getName()), true);
            if (isPublic) {
                StringBuilder parameters = new StringBuilder();
                for (Class<?> type : method.getParameterTypes()) {
                    parameters.append(parameters.length() == 0 ? "" : ", ").append(type);
                }
                face.add(method.getReturnType() + " " + method.getName() + "(" + parameters + ")");
            }
        }
        Check.due("the face " + face, face.equals(FACE), true);
    }

    private static void fields() {
        int count = 0;
        for (Field field : BrokerDesk.class.getDeclaredFields()) {
            boolean isStatic = Modifier.isStatic(field.getModifiers());
            boolean isPublic = Modifier.isPublic(field.getModifiers());
            Class<?> type = field.getType();
            Check.due(field + " is public as the document says", isPublic, CONSTANTS.contains(field.getName()));
            Check.due(field + " is public or private", isPublic || Modifier.isPrivate(field.getModifiers()), true);
            if (isStatic) {
                Check.due(field + " is a constant", Modifier.isFinal(field.getModifiers()) && type.isPrimitive(), true);
            } else {
                count++;
                Class<?> of = type.isArray() ? type.getComponentType() : type;
                Check.due(field + " is of numbers", of.isPrimitive() && of != float.class && of != double.class, true);
            }
        }
        Check.due("at most forty fields", count <= 40, true);
    }

    private static String sourceWithoutComments() throws IOException {
        String source = Files.readString(Path.of("src/main/java/BrokerDesk.java"));
        return Pattern.compile("/\\*.*?\\*/|//[^\\n]*", Pattern.DOTALL).matcher(source).replaceAll("");
    }

    private static void words(String source) {
        Matcher found = Pattern.compile("\\b(import|package|throw|throws|try|catch|finally|synchronized|assert"
            + "|instanceof|float|double|String|Math|Integer|Long|System|Arrays|Object|null|var|enum|record"
            + "|interface|protected|this)\\b|->|::|\"").matcher(source);
        while (found.find()) {
            Check.due("a word that the rules leave out: " + found.group(), 1, 0);
        }
        // Arrays are made in the fields' initialisers alone, with a constant as their length.
        Matcher made = Pattern.compile("([^\\n]*)\\bnew\\b([^\\n]*)").matcher(source);
        while (made.find()) {
            String right = "    private final (int|boolean)\\[\\] \\w+ = new (int|boolean)\\[[A-Z_]+\\];";
            Check.due("made: " + made.group(), made.group().matches(right), true);
        }
    }

    /** LANGUAGE.md 8 and 10: methods of some sixty lines, no call inside another one's arguments, six deep. */
    private static void calls(String source) {
        Map<String, String> bodies = new TreeMap<>();
        Matcher method = Pattern.compile("\n    (?:public|private) (?:\\w+ )?(\\w+)\\([^)]*\\) \\{\n(.*?)\n    \\}",
            Pattern.DOTALL).matcher(source);
        while (method.find()) {
            bodies.put(method.group(1), method.group(2));
            Check.due(method.group(1) + " has at most sixty lines", method.group(2).split("\n").length <= 60, true);
        }
        Check.due("as many as there are", bodies.size(), BrokerDesk.class.getDeclaredMethods().length + 1);
        Map<String, Set<String>> called = new TreeMap<>();
        for (Map.Entry<String, String> one : bodies.entrySet()) {
            Set<String> names = new TreeSet<>();
            Matcher call = Pattern.compile("\\b(\\w+)\\(").matcher(one.getValue());
            while (call.find()) {
                if (bodies.containsKey(call.group(1))) {
                    names.add(call.group(1));
                    Check.due(one.getKey() + ": a call in the arguments of " + call.group(1),
                        hasCall(one.getValue(), call.end()), false);
                }
            }
            called.put(one.getKey(), names);
        }
        for (String name : called.keySet()) {
            Check.due(name + " goes at most six deep", depth(name, called, 1) <= 6, true);
        }
    }

    /** Is there a call before the parenthesis that was opened just before is closed? */
    private static boolean hasCall(String body, int from) {
        int open = 1;
        for (int at = from; at < body.length() && open > 0; at++) {
            char c = body.charAt(at);
            if (c == '(' && Character.isJavaIdentifierPart(body.charAt(at - 1))) {
                return true;
            }
            open += c == '(' ? 1 : c == ')' ? -1 : 0;
        }
        return false;
    }

    /** Seven is deep enough to be wrong, and so is recursion. */
    private static int depth(String name, Map<String, Set<String>> called, int at) {
        int deepest = at;
        for (String next : called.get(name)) {
            if (at <= 6) {
                deepest = Math.max(deepest, depth(next, called, at + 1));
            }
        }
        return deepest;
    }
}
