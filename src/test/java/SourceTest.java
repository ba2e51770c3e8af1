import java.io.IOException;
import java.lang.reflect.Field;
import java.lang.reflect.Method;
import java.lang.reflect.Modifier;
import java.nio.file.Files;
import java.nio.file.Path;
import java.util.Set;
import java.util.TreeSet;
import java.util.regex.Matcher;
import java.util.regex.Pattern;

/** The rules of LANGUAGE.md that can be seen in the program's text and classes; run from the project's folder. */
public final class SourceTest {
    private static final String[] FORBIDDEN = {"(?m)^(?!\\s*(case|default)\\b).*->", "::", "\\bsynchronized\\b", "\\bassert\\b", "\\bfinally\\b",
        "\\bprotected\\b", "\\bpackage\\b", "\\bnative\\b", "\\bThread\\b", "\\bSystem\\.(?!arraycopy)",
        "\\bjava\\.(?!util\\.(ArrayList|List|Arrays|Iterator|NoSuchElementException)\\b)",
        "\\bNaN\\b", "\\bhashCode\\b", "static\\s*\\{", "\\bstatic (?!final)\\w+(\\[\\])* \\w+( =|;)"};
    private static final String THROWN = "new (IllegalArgumentException|IndexOutOfBoundsException|NoSuchElementException)\\(\"\"\\);";

    private static final int MOST_CLASSES = 12;
    private static final int MOST_FIELDS = 20;
    private static final int MOST_PARAMETERS = 7;
    private static final int MOST_METHOD_LINES = 60;

    public static void main(String[] args) throws IOException {
        String text = Files.readString(Path.of("src/main/java/PlainOrigin.java"));
        String code = text.replaceAll("/\\*(?s:.*?)\\*/|//[^\n]*", "").replaceAll("\"(\\\\.|[^\"\\\\])*\"", "\"\"");
        for (String rule : FORBIDDEN) {
            Matcher found = Pattern.compile(rule).matcher(code);
            Client.due("what rule " + rule + " finds", found.find() ? found.group() : "nothing", "nothing");
        }
        Matcher thrown = Pattern.compile("\\bthrow (?!" + THROWN + ").*").matcher(code);
        Client.due("what else is thrown", thrown.find() ? thrown.group() : "nothing", "nothing");
        int longest = longestMethod(code);
        Client.due("methods stay short", longest > 20 && longest <= MOST_METHOD_LINES, true);
        Client.due("characters 0 to 255 alone", text.chars().allMatch(c -> c < 256), true);
        classesInside();
        Client.finish();
    }

    private static int longestMethod(String code) {
        int longest = 0;
        Matcher method = Pattern.compile("(?m)^( {4}| {8})(?!.*\\b(class|enum)\\b)\\S.*\\) ?.*\\{\n(?s:.*?)^\\1\\}").matcher(code);
        while (method.find()) {
            longest = Math.max(longest, (int) method.group().lines().count());
        }
        return longest;
    }

    private static void classesInside() {
        Set<String> face = new TreeSet<>();
        for (Method m : PlainOrigin.class.getDeclaredMethods()) {
            if (Modifier.isPublic(m.getModifiers())) {
                face.add(m.getName());
            }
        }
        Class<?>[] inside = PlainOrigin.class.getDeclaredClasses();
        Client.due("classes: " + (inside.length + 1), inside.length + 1 <= MOST_CLASSES, true);
        members(PlainOrigin.class, face);
        for (Class<?> one : inside) {
            int modifiers = one.getModifiers();
            Client.due(one + " is static", Modifier.isStatic(modifiers), true);
            Client.due(one + " is not seen", Modifier.isPublic(modifiers) || Modifier.isProtected(modifiers), false);
            members(one, face);
        }
    }

    private static void members(Class<?> one, Set<String> face) {
        for (Method m : one.getDeclaredMethods()) {
            Client.due(m + " has few parameters", m.getParameterCount() <= MOST_PARAMETERS, true);
            boolean hidden = Modifier.isPrivate(m.getModifiers()) && !m.isSynthetic();
            Client.due(m + " bears no name of the face", hidden && face.contains(m.getName()), false);
        }
        int fields = 0;
        for (Field f : one.getDeclaredFields()) {
            boolean isStatic = Modifier.isStatic(f.getModifiers());
            fields += isStatic ? 0 : 1;
            Client.due(f + " is final if it is static", isStatic && !Modifier.isFinal(f.getModifiers()), false);
            Client.due(f + " is an enum's of a plain type", isPlainIfOfEnum(one, f), true);
        }
        Client.due("fields of " + one + ": " + fields, fields <= MOST_FIELDS, true);
    }

    private static boolean isPlainIfOfEnum(Class<?> one, Field f) {
        Class<?> type = f.getType();
        return !one.isEnum() || Modifier.isStatic(f.getModifiers()) || type == int.class || type == long.class || type == boolean.class
                || type == String.class;
    }
}
