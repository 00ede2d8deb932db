import java.io.IOException;
import java.lang.reflect.Constructor;
import java.lang.reflect.Field;
import java.lang.reflect.Method;
import java.lang.reflect.Modifier;
import java.nio.file.Files;
import java.nio.file.Path;
import java.util.Arrays;
import java.util.TreeSet;
import java.util.regex.Matcher;
import java.util.regex.Pattern;

/** The face of the class, and those rules of LANGUAGE.md that can be seen from outside or in the text. */
public final class LanguageTest {
    private static final String[] FACE = {
        "int stage(int, int, int)", "int feed(int, int)", "int window(int, int, int, int)",
        "int event(int, int, int, int)", "int burst(int, int, int, int, int)", "int mark(int, int)",
        "int idle(int, int)", "int rows()", "int row(int, int)", "long sum(int)", "int left(int)",
        "int leftRow(int, int)", "int about(int, int)", "int gave(int, int)", "long gaveValue(int)", "int apart(int)",
        "int count(int)", "int markOf(int)"};
    private static final String[] RULED_OUT = {
        "\\b(throw|throws|try|catch|synchronized|assert)\\b", "->", "::", "Exact\\(", "\\bpackage\\b", "@Suppress",
        "\\b(double|float|Random|System\\.(out|err|in|nano|current)|Thread|File|HashMap|Optional)\\b",
        "import (?!java\\.util\\.(ArrayList|Arrays|List);)"};

    private static String signature(Method method) {
        String parameters = Arrays.toString(Arrays.stream(method.getParameterTypes()).map(Class::getName).toArray());
        return method.getReturnType().getName() + " " + method.getName() + "("
                + parameters.substring(1, parameters.length() - 1) + ")";
    }

    private static void face() {
        TreeSet<String> found = new TreeSet<>();
        TreeSet<String> names = new TreeSet<>();
        for (Method method : WindowMill.class.getDeclaredMethods()) {
            if (!Modifier.isPrivate(method.getModifiers())) {
                found.add(signature(method));
                names.add(method.getName());
                Check.due(method + " is public", Modifier.isPublic(method.getModifiers()) ? 1 : 0, 1);
            }
        }
        Check.dueText("the face", found.toString(), new TreeSet<>(Arrays.asList(FACE)).toString());
        Check.due("final", Modifier.isFinal(WindowMill.class.getModifiers()) ? 1 : 0, 1);
        Constructor<?>[] constructors = WindowMill.class.getDeclaredConstructors();
        Check.due("one constructor", constructors.length, 1);
        Check.due("without parameters", constructors[0].getParameterCount(), 0);
        TreeSet<String> constants = new TreeSet<>();
        for (Field field : WindowMill.class.getDeclaredFields()) {
            if (!Modifier.isPrivate(field.getModifiers())) {
                constants.add(field.getName());
            }
        }
        Check.dueText("constants", constants.toString(), "[BEHIND, FULL, KIND, NONE, RING, STARTED]");
        privateNames(WindowMill.class, names);
    }

    private static void privateNames(Class<?> type, TreeSet<String> publicNames) {
        for (Method method : type.getDeclaredMethods()) {
            boolean isFace = type == WindowMill.class && Modifier.isPublic(method.getModifiers());
            Check.due(method + " has a name of its own", !isFace && publicNames.contains(method.getName()) ? 1 : 0, 0);
            Check.due(method + " takes at most seven", method.getParameterCount() > 7 ? 1 : 0, 0);
        }
        for (Class<?> inside : type.getDeclaredClasses()) {
            privateNames(inside, publicNames);
        }
    }

    private static void classesInside() {
        Class<?>[] inside = WindowMill.class.getDeclaredClasses();
        Check.due("at most twelve classes", inside.length + 1 > 12 ? 1 : 0, 0);
        for (Class<?> type : inside) {
            int modifiers = type.getModifiers();
            Check.due(type + " is static", Modifier.isStatic(modifiers) ? 1 : 0, 1);
            Check.due(type + " is not public", Modifier.isPublic(modifiers) || Modifier.isProtected(modifiers) ? 1 : 0, 0);
            fields(type);
        }
        fields(WindowMill.class);
    }

    private static void fields(Class<?> type) {
        int fields = 0;
        for (Field field : type.getDeclaredFields()) {
            boolean isStatic = Modifier.isStatic(field.getModifiers());
            fields += isStatic ? 0 : 1;
            Check.due(field + " is final", isStatic && !Modifier.isFinal(field.getModifiers()) ? 1 : 0, 0);
        }
        Check.due(type + " has at most twenty fields", fields > 20 ? 1 : 0, 0);
    }

    private static void text() throws IOException {
        String code = Files.readString(Path.of("src/main/java/WindowMill.java"))
                .replaceAll("(?s)/\\*.*?\\*/", "").replaceAll("//[^\n]*", "");
        for (String pattern : RULED_OUT) {
            Matcher matcher = Pattern.compile(pattern).matcher(code);
            Check.dueText("ruled out: " + pattern, matcher.find() ? matcher.group() : "none", "none");
        }
        int lines = 0;
        for (String line : code.split("\n")) {
            boolean isEnd = line.matches(" {4}( {4})?}");
            boolean isHead = line.matches(" {4}( {4})?[A-Za-z@].*\\{");
            lines = isEnd || isHead ? 0 : lines + 1;
            Check.due("a method's lines, up to " + line, lines > 60 ? 1 : 0, 0);
            Check.due("a line's length: " + line, line.length() > 130 ? 1 : 0, 0);
        }
    }

    public static void main(String[] args) throws IOException {
        face();
        classesInside();
        text();
        Check.end("LanguageTest");
    }
}
