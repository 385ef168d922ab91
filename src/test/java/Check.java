/** What the tests share: counting wrong answers, and writing and laying a text. */
final class Check {
    private static int asked = 0;
    private static int wrong = 0;
    private static volatile String part = "";
    /** The longest test takes some three seconds. */
    private static final long MOST_MILLIS = 120_000;

    static {
        watch();
    }

    private Check() {
    }

    /** A call that does not end must fail the test, not hold it up for ever. */
    private static void watch() {
        Thread watcher = new Thread(() -> {
            try {
                Thread.sleep(MOST_MILLIS);
            } catch (InterruptedException e) {
                return;
            }
            System.out.println(part + "a call does not end");
            System.out.flush();
            Runtime.getRuntime().halt(1);
        });
        watcher.setDaemon(true);
        watcher.start();
    }

    /** What is wrong from here on is told with this name ahead; "" for none. */
    static void begin(String name) {
        part = name.isEmpty() ? "" : name + ": ";
    }

    static void due(String call, long want, long got) {
        asked++;
        if (got != want) {
            wrong++;
            System.out.println(part + call + " answered " + got + ", due is " + want);
        }
    }

    static void holds(String what, boolean so) {
        asked++;
        if (!so) {
            wrong++;
            System.out.println(part + what + ": not so");
        }
    }

    static void write(DuskOnRopes x, String text) {
        x.wipe();
        for (int i = 0; i < text.length(); i++) {
            due("write of " + text.charAt(i), i + 1, x.write(text.charAt(i)));
        }
    }

    /** A new object on which the text has been laid. */
    static DuskOnRopes laid(String text) {
        DuskOnRopes x = new DuskOnRopes();
        write(x, text);
        due("fault() of " + text, DuskOnRopes.NONE, x.fault());
        holds("lay() of " + text, x.lay() > 0);
        return x;
    }

    static void end(String name) {
        System.out.println(name + ": " + asked + " asked, " + wrong + " wrong");
        if (wrong != 0 || asked == 0) {
            System.exit(1);
        }
    }
}
