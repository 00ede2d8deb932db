import java.io.IOException;
import java.lang.reflect.Method;
import java.nio.file.Files;
import java.nio.file.Path;
import java.util.Arrays;
import java.util.List;

/**
 * Every word of "What it is", of "Terms" and of the promises is said by a test, no test says what the document does
 * not, and the class has the public face that stands there.
 */
public final class SentencesTest {
    private static final Path DOCUMENT = Path.of("../shared/DOC.md"), CLASS = Path.of("src/main/java/WindowMill.java");
    private static final List<Class<?>> TESTS = List.of(WholeTest.class, EventsTest.class, KindsTest.class, WindowsTest.class,
            SessionsTest.class, RowsTest.class, BuildingTest.class, TellingTest.class, AskingTest.class);
    private static final int PROMISES = 19;

    private static String oneLine(String text) {
        return text.replaceAll("\\s+", " ").trim();
    }

    private static String between(String text, String first, String behind) {
        int from = text.indexOf(first);
        int to = from < 0 ? -1 : text.indexOf(behind, from + first.length());
        Check.due("the document has \"" + first + "\" and then \"" + behind + "\"", to >= 0 ? 1 : 0, 1);
        return to < 0 ? "" : text.substring(from + first.length(), to);
    }

    /** "Terms" has its first words in "What it is", the section ahead of it; a promise has its signature ahead of its words. */
    private static String section(String document, int promise) {
        if (promise < 0) {
            return oneLine(between(document, "## What it is\n", "## The public face")).replaceAll("=+ 1 EVENTS.*?\\.\\.", "");
        }
        if (promise == 0) {
            return oneLine("EVENTS " + between(document, "1 EVENTS", "\n") + " "
                    + between(document, "## Terms\n", "## Promise 1:")).replaceAll("=+ \\d ", "");
        }
        String next = promise == PROMISES ? "## Not promised" : "## Promise " + (promise + 1) + ":";
        return oneLine(between(between(document, "## Promise " + promise + ":", next), "`: ", "\n"));
    }

    private static void compare(String document, int promise) {
        String text = section(document, promise);
        boolean[] isSaid = new boolean[text.length()];
        for (Class<?> test : TESTS) {
            for (Method method : test.getDeclaredMethods()) {
                Says says = method.getAnnotation(Says.class);
                if (says != null && says.promise() == promise) {
                    for (String words : says.value()) {
                        int at = text.indexOf(words);
                        Check.due(method.getName() + " says \"" + words + "\", as the document", at >= 0 ? 1 : 0, 1);
                        Arrays.fill(isSaid, Math.max(0, at), at < 0 ? 0 : at + words.length(), true);
                    }
                }
            }
        }
        StringBuilder unsaid = new StringBuilder();
        for (int i = 0; i < text.length(); i++) {
            boolean isOfAWord = Character.isLetterOrDigit(text.charAt(i));
            unsaid.append(isSaid[i] || !isOfAWord ? ' ' : text.charAt(i));
        }
        Check.dueText("what no test says of " + Check.where(promise), oneLine(unsaid.toString()), "");
    }

    /** What is public in a text, a line each, without what stands around it. */
    private static String publicLines(String text) {
        StringBuilder lines = new StringBuilder();
        for (String line : text.split("\n")) {
            if (line.trim().startsWith("public ")) {
                lines.append(line.trim().replaceAll("( \\{|;)$", "")).append('\n');
            }
        }
        return lines.toString();
    }

    private static void compareFace(String document, String text) {
        String face = publicLines(between(document, "```java\n", "```"));
        Check.due("lines of the public face", face.split("\n").length, 21);
        Check.dueText("the public face", publicLines(text), face);
    }

    public static void main(String[] args) throws IOException {
        if (!Files.exists(DOCUMENT)) {
            System.out.println("SentencesTest: no document lies at " + DOCUMENT + ", nothing is compared");
            return;
        }
        String document = Files.readString(DOCUMENT);
        compareFace(document, Files.readString(CLASS));
        for (int promise = -1; promise <= PROMISES; promise++) {
            compare(document, promise);
        }
        Check.end("SentencesTest");
    }
}
