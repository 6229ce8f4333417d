import java.io.IOException;
import java.lang.reflect.Field;
import java.lang.reflect.Method;
import java.lang.reflect.Modifier;
import java.nio.file.Files;
import java.nio.file.Path;
import java.util.List;
import java.util.Set;
import java.util.TreeSet;
import java.util.regex.Matcher;
import java.util.regex.Pattern;

/** The public face, and what of LANGUAGE.md can be seen from outside or in the words of the source. */
public final class FaceTest {
    private static final Set<String> FACE = new TreeSet<>(List.of(
        "boolean open(int)", "boolean shut(int)", "int feed(int, long, int)", "long take(int, int)",
        "int output(int, int)", "int past(int, int)", "int session(int, int)", "int subscription(int, int, int)",
        "int place(int, int)", "int item(int, int, int)", "int ready(int, int)", "int shortest(int, int)"));
    private static final Set<String> CONSTANTS = Set.of("SHUT", "OPEN", "CLOSING", "REFUSED");

    public static void main(String[] args) throws IOException {
        constants();
        methods();
        fields();
        words();
        Check.end();
    }

    private static void constants() {
        Check.due("SHUT", BrokerDesk.SHUT, 0);
        Check.due("OPEN", BrokerDesk.OPEN, 1);
        Check.due("CLOSING", BrokerDesk.CLOSING, 2);
        Check.due("REFUSED", BrokerDesk.REFUSED, -1);
    }

    private static void methods() {
        int modifiers = BrokerDesk.class.getModifiers();
        Check.due("public and final", Modifier.isPublic(modifiers) && Modifier.isFinal(modifiers), true);
        Check.due("one constructor", BrokerDesk.class.getDeclaredConstructors().length, 1);
        Check.due("no class inside", BrokerDesk.class.getDeclaredClasses().length, 0);
        Set<String> face = new TreeSet<>();
        Set<String> names = new TreeSet<>();
        for (Method method : BrokerDesk.class.getDeclaredMethods()) {
            boolean isPublic = Modifier.isPublic(method.getModifiers());
            Check.due(method + " is public or private", isPublic || Modifier.isPrivate(method.getModifiers()), true);
            Check.due(method + " has at most seven parameters", method.getParameterCount() <= 7, true);
            Check.due(method + " has a name of its own", names.add(method.getName()), true);
            if (isPublic) {
                StringBuilder parameters = new StringBuilder();
                for (Class<?> type : method.getParameterTypes()) {
                    parameters.append(parameters.length() == 0 ? "" : ", ").append(type);
                }
                face.add(method.getReturnType() + " " + method.getName() + "(" + parameters + ")");
            }
        }
        Check.due("the face " + face, face.equals(FACE), true);
    }

    private static void fields() {
        int count = 0;
        for (Field field : BrokerDesk.class.getDeclaredFields()) {
            boolean isStatic = Modifier.isStatic(field.getModifiers());
            boolean isPublic = Modifier.isPublic(field.getModifiers());
            Class<?> type = field.getType();
            Check.due(field + " is public as the document says", isPublic, CONSTANTS.contains(field.getName()));
            Check.due(field + " is public or private", isPublic || Modifier.isPrivate(field.getModifiers()), true);
            if (isStatic) {
                Check.due(field + " is a constant", Modifier.isFinal(field.getModifiers()) && type.isPrimitive(), true);
            } else {
                count++;
                Class<?> of = type.isArray() ? type.getComponentType() : type;
                Check.due(field + " is of numbers", of.isPrimitive() && of != float.class && of != double.class, true);
            }
        }
        Check.due("at most forty fields", count <= 40, true);
    }

    private static void words() throws IOException {
        String source = Files.readString(Path.of("src/main/java/BrokerDesk.java"));
        source = Pattern.compile("/\\*.*?\\*/|//[^\\n]*", Pattern.DOTALL).matcher(source).replaceAll("");
        Matcher found = Pattern.compile("\\b(import|package|throw|throws|try|catch|finally|synchronized|assert"
            + "|instanceof|float|double|String|Math|Integer|Long|System|Arrays|Object|null|var|enum|record"
            + "|interface|protected|this)\\b|->|::|\"").matcher(source);
        while (found.find()) {
            Check.due("a word that the rules leave out: " + found.group(), 1, 0);
        }
        // Arrays are made in the fields' initialisers alone, with a constant as their length.
        Matcher made = Pattern.compile("([^\\n]*)\\bnew\\b([^\\n]*)").matcher(source);
        while (made.find()) {
            Check.due("made: " + made.group(),
                made.group().matches("    private final (int|boolean)\\[\\] \\w+ = new (int|boolean)\\[[A-Z_]+\\];"), true);
        }
    }
}
