import java.io.IOException;
import java.lang.reflect.Field;
import java.lang.reflect.Method;
import java.lang.reflect.Modifier;
import java.nio.file.Files;
import java.nio.file.Path;
import java.util.Set;
import java.util.TreeSet;
import java.util.regex.Matcher;
import java.util.regex.Pattern;

/** Those rules of ../shared/LANGUAGE.md that can be seen from the source and the classes. The source's path is the argument. */
public final class LanguageTest {
    private static final String[] FACE = {"int write(int)", "int wipe()", "int fault()", "int lay()", "int rope(int,int)",
        "int sky(int)", "int light(int)", "int hour(int,int)", "int grease(int)", "int undo()", "int met()", "int noon()",
        "int soon(int,int)", "int plan(int)", "int best(int,int)", "int posts(int)", "int brown(int)", "int seen(int,int)",
        "int forget()", "int slipped(int)", "int look(int)", "int paces(int,int,int)", "int slips(int,int,int,int,int)",
        "int spent(int)", "int evening(int,int,int)", "int keep()", "int back()", "int count(int)"};
    private static final String[] FORBIDDEN = {"throw", "throws", "try", "catch", "finally", "synchronized", "assert",
        "Exception", "Error", "Object", "var", "volatile", "native", "transient", "strictfp", "Thread", "Random", "System.out",
        "System.err", "System.exit", "nanoTime", "currentTimeMillis", "HashMap", "Map", "Set", "stream", "hashCode", "toString",
        "equals", "Exact"};

    public static void main(String[] args) throws IOException {
        Check.holds("the source's path is given", args.length == 1);
        String source = Files.readString(Path.of(args[0]));
        String code = withoutCommentsAndTexts(source);
        words(source, code);
        lengths(code);
        face();
        inside();
        Check.end("LanguageTest");
    }

    private static String withoutCommentsAndTexts(String source) {
        return source.replaceAll("(?s)/\\*.*?\\*/", "").replaceAll("//[^\n]*", "").replaceAll("\"[^\"\n]*\"", "\"\"")
            .replaceAll("'[^'\n]'", "' '");
    }

    private static void words(String source, String code) {
        for (String word : FORBIDDEN) {
            Pattern whole = Pattern.compile("(?<![A-Za-z])" + Pattern.quote(word) + "(?![A-Za-z])");
            Check.holds("no '" + word + "'", !whole.matcher(code).find());
        }
        Check.holds("no lambda", !code.contains("->"));
        Check.holds("no method reference", !code.contains("::"));
        Check.holds("no joining of texts by +", !code.contains("\" +") && !code.contains("+ \""));
        Check.holds("signs of ASCII alone", source.chars().allMatch(c -> c == '\n' || c >= 32 && c < 127));
        Check.holds("no package", !Pattern.compile("(?m)^package").matcher(code).find());
        Matcher imports = Pattern.compile("(?m)^import (.*);").matcher(code);
        while (imports.find()) {
            Check.holds("import of " + imports.group(1),
                Set.of("java.util.Arrays", "java.util.ArrayList", "java.util.List").contains(imports.group(1)));
        }
    }

    /** Sixty lines and seven parameters a method, at most; a method begins at its brace and ends at the same indent. */
    private static void lengths(String code) {
        String[] lines = code.split("\n", -1);
        Pattern head = Pattern.compile("^( {4}| {8})\\S[^;=]*\\(([^)]*)\\) \\{$");
        for (int i = 0; i < lines.length; i++) {
            Matcher m = head.matcher(lines[i]);
            if (!m.find() || lines[i].matches(" *(if|for|while|switch|else|\\}).*")) {
                continue;
            }
            int end = i;
            while (end < lines.length && !lines[end].equals(m.group(1) + "}")) {
                end++;
            }
            Check.holds("length of" + lines[i], end - i <= 60);
            Check.holds("parameters of" + lines[i], m.group(2).split(",").length <= 7);
        }
    }

    private static void face() {
        Class<?> c = DuskOnRopes.class;
        Check.holds("public and final", Modifier.isPublic(c.getModifiers()) && Modifier.isFinal(c.getModifiers()));
        Set<String> due = new TreeSet<>(Set.of(FACE));
        Set<String> open = new TreeSet<>();
        for (Method m : c.getDeclaredMethods()) {
            if (!Modifier.isPrivate(m.getModifiers())) {
                StringBuilder shape = new StringBuilder(m.getReturnType() + " " + m.getName() + "(");
                for (int i = 0; i < m.getParameterCount(); i++) {
                    shape.append(i == 0 ? "" : ",").append(m.getParameterTypes()[i]);
                }
                open.add(shape + ")");
                Check.holds(m + " is public", Modifier.isPublic(m.getModifiers()) && !Modifier.isStatic(m.getModifiers()));
            }
        }
        Check.holds("the methods are " + due + " and not " + open, due.equals(open));
        Check.due("constructors", 1, c.getDeclaredConstructors().length);
        Set<String> constants = new TreeSet<>();
        for (Field f : c.getDeclaredFields()) {
            if (!Modifier.isPrivate(f.getModifiers())) {
                constants.add(f.getName());
            }
        }
        Check.holds("constants", constants.equals(Set.of("BAD", "NO", "FULL", "NONE")));
        Check.due("BAD", -1, DuskOnRopes.BAD);
        Check.due("NO", -2, DuskOnRopes.NO);
        Check.due("FULL", -3, DuskOnRopes.FULL);
        Check.due("NONE", -4, DuskOnRopes.NONE);
    }

    private static void inside() {
        Set<String> names = new TreeSet<>();
        for (String shape : FACE) {
            names.add(shape.substring(4, shape.indexOf('(')));
        }
        Class<?>[] classes = DuskOnRopes.class.getDeclaredClasses();
        Check.holds("at most twelve classes", classes.length + 1 <= 12);
        fields(DuskOnRopes.class);
        for (Method m : DuskOnRopes.class.getDeclaredMethods()) {
            Check.holds(m + " bears no name of the face",
                !Modifier.isPrivate(m.getModifiers()) || !names.contains(m.getName()));
        }
        for (Class<?> c : classes) {
            Check.holds(c + " is static", Modifier.isStatic(c.getModifiers()));
            Check.holds(c + " is not open", (c.getModifiers() & (Modifier.PUBLIC | Modifier.PROTECTED)) == 0);
            fields(c);
            for (Method m : c.getDeclaredMethods()) {
                Check.holds(m + " bears no name of the face", !names.contains(m.getName()));
            }
        }
    }

    private static void fields(Class<?> c) {
        int own = 0;
        for (Field f : c.getDeclaredFields()) {
            if (Modifier.isStatic(f.getModifiers())) {
                Check.holds(f + " is a constant", Modifier.isFinal(f.getModifiers())
                    && Set.of("int", "long", "boolean", "char", "String").contains(f.getType().getSimpleName()));
            } else {
                own++;
            }
        }
        Check.holds(c + " has twenty fields at most", own <= 20);
    }
}
