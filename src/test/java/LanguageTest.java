import java.io.IOException;
import java.lang.reflect.Constructor;
import java.lang.reflect.Field;
import java.lang.reflect.Method;
import java.lang.reflect.Modifier;
import java.nio.file.Files;
import java.nio.file.Path;
import java.util.HashSet;
import java.util.Set;
import java.util.regex.Matcher;
import java.util.regex.Pattern;

/** The rules of LANGUAGE.md that can be read off the class itself or off its text. */
public final class LanguageTest {
    private static final int MOST_CLASSES = 12;
    private static final int MOST_FIELDS = 20;
    private static final int MOST_PARAMETERS = 7;
    private static final int MOST_LINES = 60;

    private static final Set<Class<?>> NUMBERS = Set.of(
        int.class, long.class, short.class, byte.class, char.class, boolean.class, void.class);
    private static final Set<String> LIBRARY = Set.of("Math.min", "System.arraycopy");
    private static final Set<String> THROWN = Set.of(
        "IllegalStateException", "IllegalArgumentException", "IndexOutOfBoundsException");

    public static void main(String[] args) throws IOException {
        Check check = new Check();
        String text = withoutComments(Files.readString(Path.of("src/main/java/FontMetrics.java")));
        words(check, text);
        library(check, text);
        exceptions(check, text);
        lines(check, text);
        classes(check);
        check.end("LanguageTest");
    }

    private static String withoutComments(String text) {
        return text.replaceAll("(?s)/\\*.*?\\*/", "").replaceAll("//[^\n]*", "");
    }

    private static void words(Check check, String text) {
        String[] never = {"package", "import", "try", "catch", "finally", "synchronized", "assert", "native",
            "volatile", "transient", "protected", "double", "float", "Object", "hashCode", "toString", "equals"};
        for (String word : never) {
            check.due("the word " + word, finds(text, "\\b" + word + "\\b"), false);
        }
        check.due("a lambda", text.contains("->"), false);
        check.due("a method reference", text.contains("::"), false);
        check.due("a static initialiser", finds(text, "\\bstatic\\s*\\{"), false);
        check.due("a loop without a condition", finds(text, "for\\s*\\([^;]*;\\s*;|while\\s*\\(\\s*true"), false);
    }

    private static void library(Check check, String text) {
        Matcher calls = Pattern.compile("\\b(Math|System|Integer|Long|Arrays|List|String)\\.\\w+").matcher(text);
        while (calls.find()) {
            check.due("the library's " + calls.group(), LIBRARY.contains(calls.group()), true);
        }
    }

    private static void exceptions(Check check, String text) {
        Matcher all = Pattern.compile("\\bthrow\\b[^;]*;").matcher(text);
        while (all.find()) {
            Matcher written = Pattern.compile("throw new (\\w+)\\((\"[^\"]*\")?\\);").matcher(all.group());
            check.due(all.group(), written.matches() && THROWN.contains(written.group(1)), true);
        }
    }

    /** A method is taken to end where a brace stands as far in as its head does. */
    private static void lines(Check check, String text) {
        Matcher methods = Pattern.compile("(?m)^( +)[^\n=;]*\\)[^\n=;]*\\{\n(?s:.*?)^\\1\\}").matcher(text);
        int found = 0;
        while (methods.find()) {
            found++;
            String method = methods.group();
            String head = method.substring(0, method.indexOf('\n')).trim();
            check.due("the length of " + head, method.lines().count() <= MOST_LINES, true);
        }
        check.due("methods were found", found > 20, true);
    }

    private static void classes(Check check) {
        Class<?>[] inside = FontMetrics.class.getDeclaredClasses();
        check.due("not too many classes", inside.length < MOST_CLASSES, true);
        Set<String> face = new HashSet<>();
        for (Method method : FontMetrics.class.getMethods()) {
            face.add(method.getName());
        }
        one(check, FontMetrics.class, face);
        for (Class<?> each : inside) {
            int modifiers = each.getModifiers();
            check.due(each + " is static", Modifier.isStatic(modifiers), true);
            check.due(each + " is not public", Modifier.isPublic(modifiers), false);
            one(check, each, face);
        }
    }

    private static void one(Check check, Class<?> each, Set<String> face) {
        int fields = 0;
        for (Field field : each.getDeclaredFields()) {
            check.due(field + " has a type of the rules", mayBe(field.getType()), true);
            if (Modifier.isStatic(field.getModifiers())) {
                check.due(field + " is final", Modifier.isFinal(field.getModifiers()), true);
                check.due(field + " is a number", NUMBERS.contains(field.getType()), true);
            } else {
                fields++;
            }
        }
        check.due(each + " has not too many fields", fields <= MOST_FIELDS, true);
        for (Constructor<?> constructor : each.getDeclaredConstructors()) {
            check.due(constructor + " has few parameters", constructor.getParameterCount() <= MOST_PARAMETERS, true);
        }
        for (Method method : each.getDeclaredMethods()) {
            check.due(method + " has few parameters", method.getParameterCount() <= MOST_PARAMETERS, true);
            check.due(method + " has a type of the rules", mayBe(method.getReturnType()), true);
            boolean ofTheFace = each == FontMetrics.class && Modifier.isPublic(method.getModifiers());
            check.due(method + " has a name of its own", ofTheFace || !face.contains(method.getName()), true);
        }
    }

    /** Numbers, rows of numbers, and the classes inside. */
    private static boolean mayBe(Class<?> type) {
        Class<?> element = type.isArray() ? type.getComponentType() : type;
        return NUMBERS.contains(element) || element.getNestHost() == FontMetrics.class;
    }

    private static boolean finds(String text, String pattern) {
        return Pattern.compile(pattern).matcher(text).find();
    }
}
