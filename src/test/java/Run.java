import java.lang.reflect.InvocationTargetException;
import java.lang.reflect.Method;
import java.util.ArrayList;
import java.util.List;
import java.util.Map;
import java.util.TreeMap;
import java.util.regex.Matcher;
import java.util.regex.Pattern;

/**
 * A run of calls on a new object, told as text: "hour(1,0)=4 3*rope(0,3)=3 undo()=NO" are five calls with what is due.
 * It can be made again from its beginning, so that two objects can be held against each other: see refuses.
 */
final class Run {
    /** What the document promises ends with the 512th call, so no test may lean on a later one. */
    private static final int MOST_CALLS = 512;
    private static final Pattern CALL = Pattern.compile("(?:(\\d+)\\*)?(\\w+)\\(([^)]*)\\)(?:=(\\S+))?");
    private static final Map<String, Integer> NAMED = Map.of("BAD", -1, "NO", -2, "FULL", -3, "NONE", -4,
        "MIN", Integer.MIN_VALUE, "MAX", Integer.MAX_VALUE);
    private static final Map<String, Method> METHODS = methods();

    private final DuskOnRopes x = new DuskOnRopes();
    private final List<String> past = new ArrayList<>();

    private static Map<String, Method> methods() {
        Map<String, Method> byName = new TreeMap<>();
        for (Method m : DuskOnRopes.class.getDeclaredMethods()) {
            byName.put(m.getName(), m);
        }
        return byName;
    }

    /** A new object, as it is at first. */
    static Run fresh() {
        return new Run();
    }

    /** A new object on which the text has been laid. */
    static Run laid(String text) {
        Run run = new Run().text(text);
        run.due("lay()=" + (int) text.chars().filter(c -> c == 'r').count());
        return run;
    }

    /** The text is wiped and written anew. */
    Run text(String text) {
        call("wipe()");
        for (int i = 0; i < text.length(); i++) {
            due("write(" + (int) text.charAt(i) + ")=" + (i + 1));
        }
        return this;
    }

    /** Makes the calls; an answer that is not the one that is due is told. */
    Run due(String calls) {
        for (String told : calls.trim().split("\\s+")) {
            Matcher m = CALL.matcher(told);
            if (!m.matches() || m.group(4) == null) {
                Check.holds("can be read: " + told, false);
                continue;
            }
            String call = m.group(2) + "(" + m.group(3) + ")";
            int times = m.group(1) == null ? 1 : Integer.parseInt(m.group(1));
            for (int i = 0; i < times; i++) {
                Check.due(call + ", call " + (past.size() + 1), number(m.group(4)), call(call));
            }
        }
        return this;
    }

    /** For several calls with the same due answer. */
    Run all(String answer, String... calls) {
        for (String call : calls) {
            due(call + "=" + answer);
        }
        return this;
    }

    /** So many calls have been made. */
    Run calls(int due) {
        Check.due("how many calls", due, past.size());
        return this;
    }

    /**
     * Each of the calls, made behind this run, answers what is due, and nothing whatever has changed by it: an object on
     * which it was made and one on which it was not answer all probes alike.
     */
    Run refuses(String calls) {
        List<List<Integer>> without = new ArrayList<>();
        for (String probe : PROBES) {
            without.add(again().answers(probe));
        }
        for (String told : calls.trim().split("\\s+")) {
            for (int i = 0; i < PROBES.length; i++) {
                List<Integer> with = again().due(told).answers(PROBES[i]);
                Check.holds(told + " changes nothing (probe " + i + ")", with.equals(without.get(i)));
            }
        }
        return this;
    }

    /** The same calls on another new object. */
    private Run again() {
        Run other = new Run();
        for (String call : past) {
            other.call(call);
        }
        return other;
    }

    private List<Integer> answers(String calls) {
        List<Integer> all = new ArrayList<>();
        for (String call : calls.trim().split("\\s+")) {
            all.add(call(call));
        }
        return all;
    }

    private int call(String told) {
        past.add(told);
        Check.holds("at most 512 calls", past.size() <= MOST_CALLS);
        Matcher m = CALL.matcher(told);
        if (!m.matches() || !METHODS.containsKey(m.group(2))) {
            Check.holds("is a call: " + told, false);
            return 0;
        }
        String[] numbers = m.group(3).isEmpty() ? new String[0] : m.group(3).split(",");
        Object[] arguments = new Object[numbers.length];
        for (int i = 0; i < numbers.length; i++) {
            arguments[i] = number(numbers[i]);
        }
        try {
            return (Integer) METHODS.get(m.group(2)).invoke(x, arguments);
        } catch (InvocationTargetException e) {
            Check.holds(told + " does not throw, but threw " + e.getCause(), false);
        } catch (IllegalAccessException e) {
            Check.holds(told + " can be called", false);
        }
        return 0;
    }

    private static int number(String told) {
        return NAMED.containsKey(told) ? NAMED.get(told) : Integer.parseInt(told);
    }

    /** Together these ask for all that an object holds; each is for an object of its own, as some of them change it. */
    private static final String[] PROBES = {
        stand() + " met() noon() fault() slipped(0) slipped(1) look(0) look(1) brown(0) brown(1) brown(2) evening(17,9,0)",
        rows("sky(%d)", 24) + rows("light(%d)", 24) + " plan(-1)" + rows("plan(%d)", 5) + " posts(-1)" + rows("posts(%d)", 5),
        times(9, " undo() count(4) spent(0) spent(1)" + rows("rope(%d,2) rope(%d,3)", 5)),
        times(3, " back() count(5) count(4) spent(0) spent(1)" + rows("rope(%d,2) rope(%d,3)", 5)) + " undo()",
        " undo() undo() hour(1,0) hour(0,1) hour(3,0) spent(0)",
        " write(59) fault() count(6) wipe() count(6) fault()",
        " lay() hour(1,0) hour(0,1) " + stand(),
        " slipped(0) seen(0,0) slipped(0) forget() slipped(0) slipped(1) look(0)",
    };

    private static String stand() {
        return rows("count(%d)", 7) + " spent(0) spent(1)" + rows("rope(%d,0) rope(%d,1) rope(%d,2) rope(%d,3)", 5);
    }

    private static String rows(String call, int most) {
        StringBuilder all = new StringBuilder();
        for (int i = 0; i < most; i++) {
            all.append(" ").append(call.replace("%d", "" + i));
        }
        return all.toString();
    }

    private static String times(int n, String calls) {
        return calls.repeat(n);
    }
}
