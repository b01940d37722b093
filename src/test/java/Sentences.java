import java.io.IOException;
import java.lang.reflect.InvocationTargetException;
import java.lang.reflect.Method;
import java.nio.file.Files;
import java.nio.file.Path;
import java.util.Arrays;
import java.util.Comparator;
import java.util.TreeMap;
import java.util.Map;

/** Runs tests that are each about one sentence of the document, each on a new object. */
final class Sentences {
    private static final Path DOCUMENT = Path.of("../shared/DOC.md");

    private Sentences() {
    }

    static void run(Class<?> tests) throws ReflectiveOperationException, IOException {
        Map<String, String> sections = sections();
        Method[] methods = tests.getDeclaredMethods();
        // The Java machine promises no order of methods; a run should always tell the same.
        Arrays.sort(methods, Comparator.comparing(Method::getName));
        for (Method method : methods) {
            Says says = method.getAnnotation(Says.class);
            if (says != null) {
                runOne(method, says, sections);
            } else if (Arrays.equals(method.getParameterTypes(), new Class<?>[] {StateShop.class})) {
                Check.due(method.getName() + " says what it is about", 0, 1);
            }
        }
        Check.finish();
    }

    private static void runOne(Method method, Says says, Map<String, String> sections)
        throws ReflectiveOperationException {
        Check.label(says.at() + ", " + method.getName() + ": ");
        if (!sections.isEmpty()) {
            // A test of words that the document does not say would be about nothing.
            boolean isSaid = sections.getOrDefault(says.at(), "").contains(plain(says.words()));
            Check.due("the document says \"" + says.words() + "\"", isSaid ? 1 : 0, 1);
        }
        try {
            method.setAccessible(true);
            method.invoke(null, new StateShop());
        } catch (InvocationTargetException e) {
            Check.due("it throws nothing", String.valueOf(e.getCause()), "nothing");
        }
        Check.label("");
    }

    /** The document's text under each heading, without line ends; none, if it is not there. */
    private static Map<String, String> sections() throws IOException {
        Map<String, String> sections = new TreeMap<>();
        if (Files.exists(DOCUMENT)) {
            for (String part : Files.readString(DOCUMENT).split("(?m)^## ")) {
                String heading = part.lines().findFirst().orElse("");
                sections.put(heading.split(":")[0].strip(), plain(part));
            }
        }
        return sections;
    }

    private static String plain(String text) {
        return text.replaceAll("\\s+", " ").strip();
    }
}
