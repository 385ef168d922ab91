import java.io.IOException;
import java.lang.reflect.InvocationTargetException;
import java.lang.reflect.Method;
import java.nio.file.Files;
import java.nio.file.Path;
import java.util.Arrays;
import java.util.Comparator;

/** Runs every boundary test of a class: each a method that says by which words of the document it stands. */
final class Edges {
    private static final Path DOCUMENT = Path.of("../shared/DOC.md");
    /** All tests of a class take some two seconds. */
    private static final long MOST_MILLIS = 60_000;

    private Edges() {
    }

    static void runAll(Class<?> tests) throws IOException {
        watch(tests.getName());
        String document = Files.readString(DOCUMENT);
        Method[] methods = tests.getDeclaredMethods();
        Arrays.sort(methods, Comparator.comparing(Method::getName));
        int run = 0;
        for (Method m : methods) {
            Says says = m.getAnnotation(Says.class);
            if (says == null) {
                continue;
            }
            for (String words : says.value()) {
                Check.holds(m.getName() + ": the document says \"" + words + "\"", document.contains(words));
            }
            runOne(m);
            run++;
        }
        Check.holds(tests.getName() + " has boundary tests", run > 0);
        Check.end(tests.getName() + " (" + run + " boundaries)");
    }

    /** A call that does not end must fail the test, not hold it up for ever. */
    private static void watch(String name) {
        Thread watcher = new Thread(() -> {
            try {
                Thread.sleep(MOST_MILLIS);
            } catch (InterruptedException e) {
                return;
            }
            System.out.println(name + ": a call does not end, in " + Check.part());
            System.out.flush();
            Runtime.getRuntime().halt(1);
        });
        watcher.setDaemon(true);
        watcher.start();
    }

    private static void runOne(Method m) {
        Check.begin(m.getName());
        try {
            m.setAccessible(true);
            m.invoke(null);
        } catch (InvocationTargetException e) {
            Check.holds("threw " + e.getCause(), false);
        } catch (IllegalAccessException e) {
            Check.holds("can't be called: " + e, false);
        }
        Check.begin("");
    }
}
