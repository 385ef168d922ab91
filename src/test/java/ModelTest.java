import java.util.Random;

/** Long runs of drawn calls, each answer held against the model's. All promises; the draws are the same each time. */
public final class ModelTest {
    private static final int RUNS = 400;
    private static final int CALLS = 512;
    private static final int[] FAR = {Integer.MIN_VALUE, -100, -2, -1, 41, 100, 10000, Integer.MAX_VALUE};

    private final Random draws;
    private final DuskOnRopes x = new DuskOnRopes();
    private final Model model = new Model();
    private int calls = 0;

    private ModelTest(long seed) {
        draws = new Random(seed);
    }

    public static void main(String[] args) {
        for (int seed = 0; seed < RUNS; seed++) {
            new ModelTest(seed).run(seed);
        }
        Check.end("ModelTest");
    }

    private void run(int seed) {
        while (calls < CALLS) {
            if (calls == 0 && seed % 5 != 0 || draws.nextInt(150) == 0) {
                writeText();
                both("lay()", x.lay(), model.lay());
            } else {
                call(draws.nextInt(38));
            }
        }
    }

    private void both(String call, int got, int want) {
        calls++;
        Check.due(call + " (call " + calls + ")", want, got);
    }

    /** One of 0 to most, or a little beyond, or far off. */
    private int near(int most) {
        int kind = draws.nextInt(40);
        if (kind == 0) {
            return FAR[draws.nextInt(FAR.length)];
        }
        return kind < 3 ? draws.nextInt(most + 3) - 1 : draws.nextInt(most + 1);
    }

    private void writeText() {
        both("wipe()", x.wipe(), model.wipe());
        String text = drawText();
        for (int i = 0; i < text.length(); i++) {
            char letter = text.charAt(i);
            if (draws.nextInt(900) == 0) {
                letter = (char) (draws.nextInt(2) == 0 ? draws.nextInt(140) : "rwmc,;0129".charAt(draws.nextInt(10)));
            }
            both("write(" + (int) letter + ")", x.write(letter), model.write(letter));
        }
        both("fault()", x.fault(), model.fault());
    }

    private String drawText() {
        StringBuilder text = new StringBuilder();
        int ropes = draws.nextInt(8) == 0 ? 6 : 1 + draws.nextInt(5);
        for (int i = 0; i < ropes; i++) {
            item(text, "r", draws.nextInt(24), 1 + draws.nextInt(5), draws.nextInt(4), draws.nextInt(41));
        }
        int wants = draws.nextInt(30) == 0 ? 9 : draws.nextInt(5);
        for (int i = 0; i < wants; i++) {
            item(text, "w", draws.nextInt(24), draws.nextInt(4));
        }
        int men = draws.nextInt(20) == 0 ? 7 : draws.nextInt(7);
        for (int i = 0; i < men; i++) {
            item(text, "m", draws.nextInt(24));
        }
        for (int i = draws.nextInt(3); i > 0; i--) {
            item(text, "c", draws.nextInt(10), draws.nextInt(10));
        }
        return text.toString();
    }

    private void item(StringBuilder text, String letter, int... numbers) {
        text.append(letter);
        for (int i = 0; i < numbers.length; i++) {
            text.append(i == 0 ? "" : ",").append(draws.nextInt(20) == 0 && numbers[i] < 10 ? "0" : "").append(numbers[i]);
        }
        text.append(";");
    }

    private void call(int which) {
        int k = near(5);
        int y = near(23);
        int what = near(1);
        switch (which) {
            case 0: case 1: case 2: case 3: case 4: hour(); break;
            case 5: case 6: both("grease(" + k + ")", x.grease(k), model.grease(k)); break;
            case 7: case 8: both("undo()", x.undo(), model.undo()); break;
            case 9: both("met()", x.met(), model.met()); break;
            case 10: both("noon()", x.noon(), model.noon()); break;
            case 11: ropes(); break;
            case 12: skies(); break;
            case 13: case 14: soon(y, near(3)); break;
            case 15: plans(); break;
            case 16: best(near(12), what); break;
            case 17: posts(k - 1); break;
            case 18: brown(near(2)); break;
            case 19: case 20: case 21: seen(y); break;
            case 22: both("forget()", x.forget(), model.forget()); break;
            case 23: case 24: both("slipped(" + what + ")", x.slipped(what), model.slipped(what)); break;
            case 25: case 26: both("look(" + what + ")", x.look(what), model.look(what)); break;
            case 27: case 28: paces(k, near(8)); break;
            case 29: case 30: slips(k, near(6), near(10), near(3), what); break;
            case 31: both("spent(" + what + ")", x.spent(what), model.spent(what)); break;
            case 32: case 33: evening(near(9999), near(24), what); break;
            case 34: both("keep()", x.keep(), model.keep()); break;
            case 35: both("back()", x.back(), model.back()); break;
            case 36: counts(); break;
            default: letters(); break;
        }
    }

    private void hour() {
        int down = draws.nextInt(12) == 0 ? near(31) : draws.nextInt(1 << Math.max(1, model.count(0)));
        int up = draws.nextInt(12) == 0 ? near(31) : draws.nextInt(1 << Math.max(1, model.count(0))) & ~down;
        both("hour(" + down + ", " + up + ")", x.hour(down, up), model.hour(down, up));
    }

    private void ropes() {
        int k = near(4);
        int what = near(3);
        both("rope(" + k + ", " + what + ")", x.rope(k, what), model.rope(k, what));
        for (int i = 0; i < 5; i++) {
            both("rope(" + i + ", 3)", x.rope(i, 3), model.rope(i, 3));
        }
    }

    private void skies() {
        int y = near(23);
        both("sky(" + y + ")", x.sky(y), model.sky(y));
        both("light(" + y + ")", x.light(y), model.light(y));
    }

    private void soon(int y, int u) {
        both("soon(" + y + ", " + u + ")", x.soon(y, u), model.soon(y, u));
    }

    private void plans() {
        int most = draws.nextInt(10) == 0 ? 6 : 1;
        for (int k = -1; k < most; k++) {
            both("plan(" + k + ")", x.plan(k), model.plan(k));
        }
    }

    private void best(int n, int what) {
        both("best(" + n + ", " + what + ")", x.best(n, what), model.best(n, what));
    }

    private void posts(int k) {
        both("posts(" + k + ")", x.posts(k), model.posts(k));
    }

    private void brown(int what) {
        both("brown(" + what + ")", x.brown(what), model.brown(what));
    }

    /** Often what could have been seen, as else nothing would fit. */
    private void seen(int y) {
        int v = draws.nextInt(6) == 0 ? near(40) : Math.max(0, model.sky(y)) + draws.nextInt(2);
        both("seen(" + y + ", " + v + ")", x.seen(y, v), model.seen(y, v));
    }

    private void paces(int k, int n) {
        int v = draws.nextInt(3) == 0 ? near(40) : Math.min(40, Math.max(0, model.rope(k, 3)) + n * draws.nextInt(6));
        both("paces(" + k + ", " + n + ", " + v + ")", x.paces(k, n, v), model.paces(k, n, v));
    }

    private void slips(int k, int n, int tenths, int u, int part) {
        String call = "slips(" + k + ", " + n + ", " + tenths + ", " + u + ", " + part + ")";
        both(call, x.slips(k, n, tenths, u, part), model.slips(k, n, tenths, u, part));
        int own = Math.max(0, model.rope(k, 3)) / 10;
        both("slips of its own light", x.slips(k, n, tenths, own, part), model.slips(k, n, tenths, own, part));
    }

    private void evening(int z, int n, int what) {
        both("evening(" + z + ", " + n + ", " + what + ")", x.evening(z, n, what), model.evening(z, n, what));
    }

    private void counts() {
        int what = near(6);
        both("count(" + what + ")", x.count(what), model.count(what));
        both("spent(0)", x.spent(0), model.spent(0));
        both("spent(1)", x.spent(1), model.spent(1));
    }

    private void letters() {
        int letter = near(126);
        both("write(" + letter + ")", x.write(letter), model.write(letter));
        both("fault()", x.fault(), model.fault());
    }
}
