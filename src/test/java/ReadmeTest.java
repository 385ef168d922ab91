import java.io.ByteArrayOutputStream;
import java.io.IOException;
import java.lang.reflect.Method;
import java.net.URL;
import java.net.URLClassLoader;
import java.nio.file.Files;
import java.nio.file.Path;
import java.util.ArrayList;
import java.util.Arrays;
import java.util.List;
import java.util.Map;
import java.util.Set;
import java.util.TreeMap;
import java.util.TreeSet;
import java.util.regex.Matcher;
import java.util.regex.Pattern;
import java.util.stream.Stream;
import javax.tools.JavaCompiler;
import javax.tools.ToolProvider;

/** What README.md shows holds of the class: its calls compile and answer as it says, its tables name what there is. */
public final class ReadmeTest {
    private static final Map<String, Integer> NAMED = Map.of("BAD", DuskOnRopes.BAD, "NO", DuskOnRopes.NO,
        "FULL", DuskOnRopes.FULL, "NONE", DuskOnRopes.NONE);
    private static final String ANSWER = "(-?\\d+|BAD|NO|FULL|NONE)";
    private static final Pattern SHOWN = Pattern.compile("(?m)^(x\\.\\w+\\([^;]*\\));(?:\\s*// " + ANSWER + "\\b.*)?$");
    private static final Pattern ROW = Pattern.compile(
        "(?m)^\\| `(\\w+)\\(([^)]*)\\)` \\| ([^|]+) \\| `(\\w+)\\(([^)]*)\\)` " + ANSWER + " \\| ([A-Z, ]*)\\|$");

    private static String readme;
    private static String document;

    public static void main(String[] args) throws Exception {
        readme = Files.readString(Path.of("README.md"));
        document = Files.readString(Path.of("../shared/DOC.md"));
        shownCalls();
        tableOfItems();
        tableOfCalls();
        constants();
        firstText();
        tableOfTests();
        Check.end("ReadmeTest");
    }

    private static int number(String told) {
        return NAMED.containsKey(told) ? NAMED.get(told) : Integer.parseInt(told);
    }

    /** Each block of Java is compiled as it stands, but that its calls' answers are put by to be looked at. */
    private static void shownCalls() throws Exception {
        Matcher blocks = Pattern.compile("(?s)```java\n(.*?)```").matcher(readme);
        int found = 0;
        while (blocks.find()) {
            found++;
            Check.begin("block " + found + " of README.md");
            shownBlock(blocks.group(1), found);
        }
        Check.begin("");
        Check.due("blocks of README.md", 2, found);
    }

    private static void shownBlock(String block, int nth) throws Exception {
        List<String> calls = new ArrayList<>();
        List<Integer> due = new ArrayList<>();
        Matcher m = SHOWN.matcher(block);
        while (m.find()) {
            Check.holds(m.group(1) + " has its answer behind it", m.group(2) != null);
            calls.add(m.group(1));
            due.add(m.group(2) == null ? 0 : number(m.group(2)));
        }
        Check.holds("calls are shown", !calls.isEmpty());
        Check.due("lines that begin with x.", block.lines().filter(l -> l.startsWith("x.")).count(), calls.size());
        List<?> answers = answers("Shown" + nth, SHOWN.matcher(block).replaceAll("answers.add($1);"));
        Check.due("answers", calls.size(), answers.size());
        for (int i = 0; i < Math.min(calls.size(), answers.size()); i++) {
            Check.due(calls.get(i), due.get(i), (Integer) answers.get(i));
        }
    }

    private static List<?> answers(String name, String block) throws Exception {
        Path dir = Files.createTempDirectory("readme");
        try {
            Path source = dir.resolve(name + ".java");
            Files.writeString(source, "public final class " + name + " { public static java.util.List<Integer> run() {\n"
                + "java.util.List<Integer> answers = new java.util.ArrayList<>();\n" + block + "return answers; } }\n");
            JavaCompiler compiler = ToolProvider.getSystemJavaCompiler();
            ByteArrayOutputStream said = new ByteArrayOutputStream();
            int code = compiler == null ? 1 : compiler.run(null, said, said, "-d", dir.toString(),
                "-cp", System.getProperty("java.class.path"), source.toString());
            Check.holds("can be compiled " + said, code == 0);
            if (code != 0) {
                return List.of();
            }
            try (URLClassLoader loader = new URLClassLoader(new URL[] {dir.toUri().toURL()})) {
                return (List<?>) loader.loadClass(name).getMethod("run").invoke(null);
            }
        } finally {
            remove(dir);
        }
    }

    private static void remove(Path dir) throws IOException {
        try (Stream<Path> files = Files.list(dir)) {
            for (Path file : files.toList()) {
                Files.delete(file);
            }
        }
        Files.delete(dir);
    }

    /** Of an item so many are taken as the table says, and one more is the fault. */
    private static void tableOfItems() {
        Matcher row = Pattern.compile("(?m)^\\| `([rwmc])([A-Z,]+);` \\| ([^|]+) \\| (\\d*) ?\\|$").matcher(readme);
        Set<String> told = new TreeSet<>();
        while (row.find()) {
            told.add(row.group(1));
            String numbers = row.group(2).replaceAll("[A-Z]", "1");
            StringBuilder text = new StringBuilder();
            int most = row.group(4).isEmpty() ? 200 / (numbers.length() + 2) : Integer.parseInt(row.group(4));
            for (int i = 0; i < most; i++) {
                text.append(item(row.group(1), numbers, i));
            }
            DuskOnRopes x = new DuskOnRopes();
            Check.write(x, text.toString());
            Check.due("fault() of " + text, DuskOnRopes.NONE, x.fault());
            if (!row.group(4).isEmpty()) {
                Check.write(x, text + item(row.group(1), numbers, most));
                Check.due("fault() of one more than " + text, text.length(), x.fault());
            }
        }
        Check.holds("README.md tells all items, but " + told, told.equals(Set.of("r", "w", "m", "c")));
    }

    /** Over yard i, as no two ropes may be over the same. */
    private static String item(String letter, String numbers, int i) {
        return letter + (letter.equals("r") ? i + numbers.substring(1) : numbers) + ";";
    }

    private static void tableOfCalls() throws Exception {
        Map<String, Method> face = new TreeMap<>();
        for (Method m : DuskOnRopes.class.getMethods()) {
            if (m.getDeclaringClass() == DuskOnRopes.class) {
                face.put(m.getName(), m);
            }
        }
        Set<String> told = new TreeSet<>();
        Matcher row = ROW.matcher(readme);
        while (row.find()) {
            String name = row.group(1);
            Check.holds(name + " is told once, and is a call", told.add(name) && face.containsKey(name));
            Check.holds(name + " is as in the document: " + row.group(2), document.contains(
                "public int " + name + "(" + row.group(2).replaceAll("\\w+", "int $0") + ");"));
            Check.holds(name + " is shown by itself", name.equals(row.group(4)));
            Check.holds(name + " is refused by " + row.group(7),
                refusals(row.group(7)).equals(refusals(promise(name))) && inOrder(row.group(7)));
            if (face.containsKey(name)) {
                Check.due(name + "(" + row.group(5) + ") of README.md", number(row.group(6)),
                    onNewObject(face.get(name), row.group(5)));
            }
        }
        Check.holds("README.md tells all calls " + face.keySet() + " but " + told, told.equals(face.keySet()));
    }

    private static int onNewObject(Method m, String numbers) throws Exception {
        Object[] arguments = numbers.isEmpty() ? new Object[0]
            : Arrays.stream(numbers.split(", ")).map(Integer::valueOf).toArray();
        return (Integer) m.invoke(new DuskOnRopes(), arguments);
    }

    /** What the document promises of a call. */
    private static String promise(String name) {
        Matcher m = Pattern.compile("(?m)^`int " + name + "\\([^)]*\\)`: (.*)$").matcher(document);
        return m.find() ? m.group(1) : "";
    }

    private static Set<String> refusals(String told) {
        Set<String> all = new TreeSet<>();
        Matcher m = Pattern.compile("\\b(BAD|NO|NONE|FULL)\\b").matcher(told);
        while (m.find()) {
            all.add(m.group());
        }
        return all;
    }

    /** As the document has them: the first of several counts. */
    private static boolean inOrder(String told) {
        return Pattern.matches("(BAD)?(, )?(NO)?(, )?(NONE)?(, )?(FULL)?", told.trim());
    }

    private static void constants() {
        for (Map.Entry<String, Integer> named : NAMED.entrySet()) {
            Check.holds("README.md tells " + named, readme.contains("`DuskOnRopes." + named.getKey() + "` (" + named.getValue() + ")"));
        }
    }

    /** A new object is as if the text that README.md names had been laid. */
    private static void firstText() {
        Matcher m = Pattern.compile("valley laid already, that of the text\\s+`([^`]*)`").matcher(readme);
        Check.holds("README.md names the first text", m.find());
        DuskOnRopes x = Check.laid(m.group(1));
        DuskOnRopes fresh = new DuskOnRopes();
        for (int what = 0; what < 6; what++) {
            Check.due("count(" + what + ") of a new object", x.count(what), fresh.count(what));
        }
        for (int i = 0; i < 16; i++) {
            Check.due("a new object's rope", x.rope(i / 4, i % 4), fresh.rope(i / 4, i % 4));
        }
        Check.due("a new object's letters", 0, fresh.count(6));
        Check.due("a new object's costs", x.hour(3, 12), fresh.hour(3, 12));
        Check.due("a new object's men", x.posts(-1), fresh.posts(-1));
        Check.due("a new object's wants", x.met(), fresh.met());
    }

    private static void tableOfTests() throws IOException {
        Set<String> told = new TreeSet<>();
        Matcher m = Pattern.compile("(?m)^\\| `(\\w+Test)` \\|").matcher(readme);
        while (m.find()) {
            told.add(m.group(1));
        }
        Set<String> there = new TreeSet<>();
        try (Stream<Path> files = Files.list(Path.of("src/test/java"))) {
            files.map(f -> f.getFileName().toString()).filter(f -> f.endsWith("Test.java"))
                .forEach(f -> there.add(f.replace(".java", "")));
        }
        Check.holds("README.md tells all tests " + there + " but " + told, told.equals(there));
        Check.holds(".ci/run is there", Files.isExecutable(Path.of(".ci/run")));
    }
}
