import java.io.PrintWriter;
import java.io.StringWriter;
import java.util.ArrayList;
import java.util.List;
import java.util.Map;
import java.util.Set;
import java.util.TreeMap;
import java.util.TreeSet;
import java.util.regex.Matcher;
import java.util.regex.Pattern;
import java.util.spi.ToolProvider;

/** Those rules of ../shared/LANGUAGE.md that are seen best in what javac makes of the class. */
public final class BytecodeTest {
    /** What the class uses of the library, each named by rule 4 (a constructor calls that of Object by itself). */
    private static final Set<String> LIBRARY = Set.of("java/lang/Object.<init>", "java/lang/Math.max", "java/lang/Math.min",
        "java/lang/Math.abs", "java/lang/Integer.bitCount", "java/lang/String.length", "java/lang/String.charAt",
        "java/lang/System.arraycopy", "java/util/Arrays.fill");
    private static final Set<String> MAKING = Set.of("new", "newarray", "anewarray", "multianewarray");
    private static final Set<String> FORBIDDEN = Set.of("athrow", "invokedynamic", "monitorenter", "monitorexit", "checkcast",
        "putstatic", "frem", "drem");
    private static final int MOST_DEEP = 8;

    private static final Pattern HEAD = Pattern.compile("^  (?:\\S.* )?([\\w$]+)\\([^)]*\\)( throws .*)?;$");
    private static final Pattern STEP = Pattern.compile("^ +\\d+: ([a-z]\\w*)(.*)$");
    private static final Pattern CALLED = Pattern.compile("// (?:Interface)?Method ([^:]+):");

    private final Map<String, Set<String>> calls = new TreeMap<>();

    public static void main(String[] args) {
        BytecodeTest test = new BytecodeTest();
        List<Class<?>> classes = new ArrayList<>(List.of(DuskOnRopes.class.getDeclaredClasses()));
        classes.add(DuskOnRopes.class);
        for (Class<?> c : classes) {
            test.read(c.getName());
        }
        Check.holds("methods were read", test.calls.size() > 80);
        for (String method : test.calls.keySet()) {
            int depth = test.depth(method, new ArrayList<>());
            Check.holds(method + " goes " + MOST_DEEP + " deep at most, not " + depth, depth <= MOST_DEEP);
        }
        Check.end("BytecodeTest");
    }

    private static String javap(String name) {
        StringWriter out = new StringWriter();
        PrintWriter lines = new PrintWriter(out);
        int code = ToolProvider.findFirst("javap").map(tool -> tool.run(lines, lines, "-c", "-p",
            "-cp", System.getProperty("java.class.path"), name)).orElse(1);
        lines.flush();
        Check.due("javap of " + name, 0, code);
        return out.toString();
    }

    private void read(String name) {
        String method = "";
        for (String line : javap(name).split("\\R")) {
            Matcher head = HEAD.matcher(line);
            Matcher step = STEP.matcher(line);
            if (head.matches()) {
                method = name + "." + (head.group(1).equals(name) ? "<init>" : head.group(1));
                Check.holds(method + " is the only one of its name", calls.put(method, new TreeSet<>()) == null);
                Check.holds(method + " says of no throwing", head.group(2) == null);
            } else if (step.matches()) {
                look(name, method, step.group(1), step.group(2));
            }
            Check.holds(method + " catches nothing", !line.contains("Exception table"));
        }
    }

    private void look(String name, String method, String step, String rest) {
        Check.holds(method + " has no " + step, !FORBIDDEN.contains(step));
        Check.holds(method + " makes nothing, as it is no constructor", !MAKING.contains(step) || method.endsWith("<init>"));
        Matcher m = CALLED.matcher(rest);
        if (!m.find()) {
            return;
        }
        String called = m.group(1).replace("\"", "");
        called = called.contains(".") ? called : name + "." + called;
        if (called.startsWith("DuskOnRopes")) {
            Set<String> all = calls.get(method);
            Check.holds(method + " has been read", all != null);
            if (all != null) {
                all.add(called);
            }
        } else {
            Check.holds(method + " calls nothing but what is named: " + called, LIBRARY.contains(called));
        }
    }

    /** How many calls stand open at once, a method's calls of itself left out; there is no other recursion. */
    private int depth(String method, List<String> open) {
        if (open.contains(method)) {
            Check.holds(method + " is called again by what it calls: " + open, false);
            return 0;
        }
        open.add(method);
        int deepest = 0;
        for (String called : calls.getOrDefault(method, Set.of())) {
            if (!called.equals(method)) {
                deepest = Math.max(deepest, depth(called, open));
            }
        }
        open.remove(method);
        return deepest + 1;
    }
}
