/** What the tests share: counting wrong answers, and writing and laying a text. */
final class Check {
    private static int asked = 0;
    private static int wrong = 0;
    private static volatile String part = "";

    private Check() {
    }

    /** What is wrong from here on is told with this name ahead; "" for none. */
    static void begin(String name) {
        part = name.isEmpty() ? "" : name + ": ";
    }

    static String part() {
        return part;
    }

    static void due(String call, long want, long got) {
        asked++;
        if (got != want) {
            wrong++;
            System.out.println(part + call + " answered " + got + ", due is " + want);
        }
    }

    static void holds(String what, boolean so) {
        asked++;
        if (!so) {
            wrong++;
            System.out.println(part + what + ": not so");
        }
    }

    static void write(DuskOnRopes x, String text) {
        x.wipe();
        for (int i = 0; i < text.length(); i++) {
            due("write of " + text.charAt(i), i + 1, x.write(text.charAt(i)));
        }
    }

    /** A new object on which the text has been laid. */
    static DuskOnRopes laid(String text) {
        DuskOnRopes x = new DuskOnRopes();
        write(x, text);
        due("fault() of " + text, DuskOnRopes.NONE, x.fault());
        holds("lay() of " + text, x.lay() > 0);
        return x;
    }

    static void end(String name) {
        System.out.println(name + ": " + asked + " asked, " + wrong + " wrong");
        if (wrong != 0 || asked == 0) {
            System.exit(1);
        }
    }
}
