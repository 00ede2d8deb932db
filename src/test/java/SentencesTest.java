import java.io.IOException;
import java.lang.reflect.Method;
import java.nio.file.Files;
import java.nio.file.Path;
import java.util.Arrays;
import java.util.List;

/** Every word of "Terms" and of the promises is said by a test, and no test says what the document does not. */
public final class SentencesTest {
    private static final Path DOCUMENT = Path.of("../shared/DOC.md");
    private static final List<Class<?>> TESTS = List.of(EventsTest.class, KindsTest.class, WindowsTest.class,
            SessionsTest.class, RowsTest.class, BuildingTest.class, TellingTest.class, AskingTest.class);
    private static final int PROMISES = 19;

    private static String oneLine(String text) {
        return text.replaceAll("\\s+", " ").trim();
    }

    private static String between(String text, String first, String behind) {
        int from = text.indexOf(first);
        int to = from < 0 ? -1 : text.indexOf(behind, from + first.length());
        Check.due("the document has \"" + first + "\" and then \"" + behind + "\"", to >= 0 ? 1 : 0, 1);
        return to < 0 ? "" : text.substring(from + first.length(), to);
    }

    /** "Terms" has its first words in the section ahead of it; a promise has its signature ahead of its words. */
    private static String section(String document, int promise) {
        if (promise == 0) {
            return oneLine("EVENTS " + between(document, "1 EVENTS", "\n") + " "
                    + between(document, "## Terms\n", "## Promise 1:")).replaceAll("=+ \\d ", "");
        }
        String next = promise == PROMISES ? "## Not promised" : "## Promise " + (promise + 1) + ":";
        return oneLine(between(between(document, "## Promise " + promise + ":", next), "`: ", "\n"));
    }

    private static void compare(String document, int promise) {
        String text = section(document, promise);
        boolean[] isSaid = new boolean[text.length()];
        for (Class<?> test : TESTS) {
            for (Method method : test.getDeclaredMethods()) {
                Says says = method.getAnnotation(Says.class);
                if (says != null && says.promise() == promise) {
                    for (String words : says.value()) {
                        int at = text.indexOf(words);
                        Check.due(method.getName() + " says \"" + words + "\", as the document", at >= 0 ? 1 : 0, 1);
                        Arrays.fill(isSaid, Math.max(0, at), at < 0 ? 0 : at + words.length(), true);
                    }
                }
            }
        }
        StringBuilder unsaid = new StringBuilder();
        for (int i = 0; i < text.length(); i++) {
            boolean isOfAWord = Character.isLetterOrDigit(text.charAt(i));
            unsaid.append(isSaid[i] || !isOfAWord ? ' ' : text.charAt(i));
        }
        Check.dueText("what no test says of " + (promise == 0 ? "Terms" : "promise " + promise), oneLine(unsaid.toString()), "");
    }

    public static void main(String[] args) throws IOException {
        if (!Files.exists(DOCUMENT)) {
            System.out.println("SentencesTest: no document lies at " + DOCUMENT + ", nothing is compared");
            return;
        }
        String document = Files.readString(DOCUMENT);
        for (int promise = 0; promise <= PROMISES; promise++) {
            compare(document, promise);
        }
        Check.end("SentencesTest");
    }
}
