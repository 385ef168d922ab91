/** Promises 27 to 29: skies kept, and counts. */
public final class KeptTest {
    private static final int BAD = DuskOnRopes.BAD, NO = DuskOnRopes.NO, FULL = DuskOnRopes.FULL;

    public static void main(String[] args) {
        keeping();
        what();
        counts();
        Check.end("KeptTest");
    }

    private static void state(DuskOnRopes x, int turns, int kind, int cost, int hours) {
        Check.due("rope(0, 3)", turns, x.rope(0, 3));
        Check.due("rope(0, 2)", kind, x.rope(0, 2));
        Check.due("spent(0)", cost, x.spent(0));
        Check.due("spent(1)", hours, x.spent(1));
    }

    private static void keeping() {
        DuskOnRopes x = Check.laid("r5,3,0,10;c2,5;");
        Check.due("back() of nothing", NO, x.back());
        Check.due("keep()", 1, x.keep());
        x.hour(1, 0);
        x.grease(0);
        Check.due("keep()", 2, x.keep());
        x.hour(0, 1);
        state(x, 9, 1, 7, 2);
        Check.due("keep(), full", FULL, x.keep());
        Check.due("count(5)", 2, x.count(5));
        Check.due("count(4)", 3, x.count(4));
        x.seen(1, 1);
        Check.due("back()", 1, x.back());
        state(x, 13, 1, 2, 1);
        Check.due("nothing is undone then", 0, x.count(4));
        Check.due("undo()", NO, x.undo());
        Check.due("what was seen stays", 1, x.count(3));
        x.hour(1, 0);
        Check.due("keep() again", 2, x.keep());
        Check.due("back()", 1, x.back());
        state(x, 17, 1, 4, 2);
        Check.due("back()", 0, x.back());
        state(x, 10, 0, 0, 0);
        Check.due("back(), none is left", NO, x.back());
        state(x, 10, 0, 0, 0);
    }

    private static void what() {
        DuskOnRopes x = Check.laid("r5,3,2,10;");
        x.hour(1, 0);
        Check.due("keep()", 1, x.keep());
        Check.due("keeping leaves what can be undone", 1, x.count(4));
        Check.due("undo()", 0, x.undo());
        Check.due("what is kept stays through undo()", 1, x.count(5));
        state(x, 10, 2, 0, 0);
        Check.due("back()", 0, x.back());
        state(x, 13, 2, 1, 1);
        for (int i = 0; i < 98; i++) {
            x.hour(0, 0);
        }
        Check.due("hour, 99 have gone by", NO, x.hour(0, 0));
        x.keep();
        x.undo();
        Check.due("hour", 0, x.hour(0, 0));
        x.back();
        Check.due("hour, 99 again", NO, x.hour(0, 0));
    }

    private static void counts() {
        DuskOnRopes x = Check.laid("r5,3,2,10;w1,1;w2,2;m1;m2;m3;");
        x.hour(0, 0);
        x.hour(0, 0);
        x.grease(0);
        x.grease(0);
        x.keep();
        x.seen(1, 1);
        x.seen(2, 2);
        x.seen(3, 3);
        x.write(32);
        int[] want = {1, 2, 3, 3, 4, 1, 30};
        for (int i = 0; i < want.length; i++) {
            Check.due("count(" + i + ")", want[i], x.count(i));
        }
        for (int wrong : new int[] {-1, 7, Integer.MIN_VALUE, Integer.MAX_VALUE}) {
            Check.due("count(" + wrong + ")", BAD, x.count(wrong));
        }
    }
}
