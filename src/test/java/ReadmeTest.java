import java.io.File;
import java.io.IOException;
import java.lang.reflect.InvocationTargetException;
import java.lang.reflect.Method;
import java.lang.reflect.Modifier;
import java.net.URL;
import java.net.URLClassLoader;
import java.nio.file.Files;
import java.nio.file.Path;
import java.util.ArrayList;
import java.util.List;
import java.util.regex.Matcher;
import java.util.regex.Pattern;
import javax.tools.ToolProvider;

/** The calls that README.md shows are compiled and run, and must answer what stands behind them; nothing is left out. */
public final class ReadmeTest {
    private static final Pattern BLOCK = Pattern.compile("```java\n(.*?)```", Pattern.DOTALL);
    /** A call, whether its answer gets a name or not, and the number or the refusal that stands behind it. */
    private static final Pattern CALL = Pattern.compile("(?:int (\\w+) = )?mill\\.(.*); +// (-?\\d+|[A-Z]+): .*");
    private static final String NAME = "ReadmeExample";

    private final List<String> calls = new ArrayList<>();
    private final List<Long> due = new ArrayList<>();
    private final String text;

    /** The lines of a block as a method that answers what its calls answered. */
    private ReadmeTest(String block) throws ReflectiveOperationException {
        StringBuilder lines = new StringBuilder();
        for (String line : block.split("\n")) {
            lines.append(asJava(line)).append('\n');
        }
        text = "public final class " + NAME + " { public static long[] answers() { long[] answers = new long["
                + calls.size() + "];\n" + lines + "return answers; } }\n";
    }

    private String asJava(String line) throws ReflectiveOperationException {
        Matcher matcher = CALL.matcher(line);
        if (!matcher.matches()) {
            Check.due("what this line answers is seen: " + line, line.contains("// ") ? 1 : 0, 0);
            return line;
        }
        String want = matcher.group(3);
        boolean isRefused = Character.isLetter(want.charAt(0));
        due.add(isRefused ? WindowMill.class.getField(want).getInt(null) : Long.parseLong(want));
        calls.add(matcher.group(2));
        String name = matcher.group(1);
        String call = "mill." + matcher.group(2) + ";";
        String answer = "answers[" + (calls.size() - 1) + "] = ";
        return name == null ? answer + call : "int " + name + " = " + call + answer + name + ";";
    }

    private long[] run() throws IOException, ReflectiveOperationException {
        Path folder = Files.createTempDirectory("readme");
        Path file = Files.writeString(folder.resolve(NAME + ".java"), text);
        int compiled = ToolProvider.getSystemJavaCompiler().run(null, null, null,
                "-cp", System.getProperty("java.class.path"), "-d", folder.toString(), file.toString());
        Check.due("README.md's example is Java: javac", compiled, 0);
        try (URLClassLoader loader = new URLClassLoader(new URL[] {folder.toUri().toURL()})) {
            return (long[]) loader.loadClass(NAME).getMethod("answers").invoke(null);
        } catch (InvocationTargetException e) {
            throw new IllegalStateException("README.md's example threw", e.getCause());
        } finally {
            for (File made : folder.toFile().listFiles()) {
                made.delete();
            }
            Files.delete(folder);
        }
    }

    private void compare() throws IOException, ReflectiveOperationException {
        long[] answers = run();
        for (int i = 0; i < answers.length; i++) {
            Check.due("README.md: mill." + calls.get(i), answers[i], due.get(i));
        }
    }

    private static void dueNamed(String readme, String what, String name) {
        Check.due("README.md has the " + what + " " + name, readme.contains(name) ? 1 : 0, 1);
    }

    private static void names(String readme) throws IOException {
        for (Method method : WindowMill.class.getDeclaredMethods()) {
            if (Modifier.isPublic(method.getModifiers())) {
                dueNamed(readme, "call", "mill." + method.getName() + "(");
            }
        }
        for (String refusal : new String[] {"NONE", "KIND", "RING", "STARTED", "BEHIND", "FULL"}) {
            dueNamed(readme, "refusal", "// " + refusal + ": ");
        }
        for (Class<?> inside : WindowMill.class.getDeclaredClasses()) {
            dueNamed(readme, "class", "`" + inside.getSimpleName() + "`");
        }
        for (File test : new File("src/test/java").listFiles()) {
            dueNamed(readme, "test", "`" + test.getName().replace(".java", "`"));
        }
        Matcher named = Pattern.compile("`(\\w+Test)`").matcher(readme);
        while (named.find()) {
            Path file = Path.of("src/test/java", named.group(1) + ".java");
            Check.due(named.group() + " is there", Files.exists(file) ? 1 : 0, 1);
        }
    }

    public static void main(String[] args) throws IOException, ReflectiveOperationException {
        String readme = Files.readString(Path.of("README.md"));
        Matcher blocks = BLOCK.matcher(readme);
        while (blocks.find()) {
            new ReadmeTest(blocks.group(1)).compare();
        }
        names(readme);
        Check.end("ReadmeTest");
    }
}
