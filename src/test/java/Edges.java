import java.io.IOException;
import java.lang.reflect.InvocationTargetException;
import java.lang.reflect.Method;
import java.nio.file.Files;
import java.nio.file.Path;
import java.util.Arrays;
import java.util.Comparator;

/** Runs every boundary test of a class: each a method that says by which words of the document it stands. */
final class Edges {
    private static final Path DOCUMENT = Path.of("../shared/DOC.md");

    private Edges() {
    }

    static void runAll(Class<?> tests) throws IOException {
        String document = Files.readString(DOCUMENT);
        Method[] methods = tests.getDeclaredMethods();
        Arrays.sort(methods, Comparator.comparing(Method::getName));
        int run = 0;
        for (Method m : methods) {
            Says says = m.getAnnotation(Says.class);
            if (says == null) {
                continue;
            }
            for (String words : says.value()) {
                Check.holds(m.getName() + ": the document says \"" + words + "\"", document.contains(words));
            }
            runOne(m);
            run++;
        }
        Check.holds(tests.getName() + " has boundary tests", run > 0);
        Check.end(tests.getName() + " (" + run + " boundaries)");
    }

    private static void runOne(Method m) {
        Check.begin(m.getName());
        try {
            m.setAccessible(true);
            m.invoke(null);
        } catch (InvocationTargetException e) {
            Check.holds("threw " + e.getCause(), false);
        } catch (IllegalAccessException e) {
            Check.holds("can't be called: " + e, false);
        }
        Check.begin("");
    }
}
