import java.io.IOException;
import java.lang.reflect.Method;
import java.nio.charset.StandardCharsets;
import java.nio.file.Files;
import java.nio.file.Path;
import java.util.Arrays;
import java.util.Comparator;
import java.util.List;

/**
 * Runs the tests of boundaries: one for each sentence that names one, called by its promise. With a word
 * as argument: only those whose names have it.
 */
public final class BoundsTest {
    private static final List<Class<?>> TESTS = List.of(NewBounds.class, RowsBounds.class, TextsBounds.class,
            MinutesBounds.class, ForetoldBounds.class, AskedBounds.class);
    private static final Path DOCUMENT = Path.of("../shared/DOC.md");
    private static final int PROMISES = 29;

    public static void main(String[] args) throws ReflectiveOperationException, IOException {
        String word = args.length > 0 ? args[0] : "promise";
        int[] tests = new int[PROMISES + 1];
        String document = Files.isReadable(DOCUMENT) ? plain(Files.readString(DOCUMENT, StandardCharsets.UTF_8)) : null;
        for (Class<?> of : TESTS) {
            Method[] methods = of.getDeclaredMethods();
            Arrays.sort(methods, Comparator.comparing(Method::getName));
            for (Method test : methods) {
                if (test.isAnnotationPresent(Says.class) && test.getName().contains(word)) {
                    tests[promiseOf(test)]++;
                    run(test, document);
                }
            }
        }
        for (int promise = 1; promise <= PROMISES && args.length == 0; promise++) {
            Due.holds("a test of the bounds of promise " + promise, tests[promise] > 0);
        }
        System.out.println(Arrays.stream(tests).sum() + " sentences");
        Due.end();
    }

    private static void run(Method test, String document) throws ReflectiveOperationException {
        Due.within(test.getName());
        test.invoke(null);
        if (document != null) {
            String words = plain(test.getAnnotation(Says.class).value());
            String terms = part(document, "## Terms", "## Promise 1:");
            int promise = promiseOf(test);
            String own = part(document, "## Promise " + promise + ":", "## ");
            String first = part(document, "## What it is", "## Terms");
            Due.holds("the document says: " + words, (first + terms + own).contains(words));
        }
        Due.within("");
    }

    /** promise07_aTextThatIsEmpty: 7. */
    private static int promiseOf(Method test) {
        return Integer.parseInt(test.getName().substring(7, 9));
    }

    private static String plain(String text) {
        return text.replaceAll("\\s+", " ");
    }

    private static String part(String document, String from, String to) {
        int start = document.indexOf(from);
        if (start < 0) {
            return "";
        }
        int end = document.indexOf(to, start + from.length());
        return document.substring(start, end < 0 ? document.length() : end);
    }
}
