/** Promises 9 to 11: hours, greasing, what is undone. */
public final class HoursTest {
    private static final int BAD = DuskOnRopes.BAD, NO = DuskOnRopes.NO;

    public static void main(String[] args) {
        kindsDownAndUp();
        fraying();
        sticking();
        costs();
        wrongHours();
        ninetyNine();
        greasing();
        undoing();
        Check.end("HoursTest");
    }

    private static void turns(String when, DuskOnRopes x, int... want) {
        for (int k = 0; k < want.length; k++) {
            Check.due(when + ": rope(" + k + ", 3)", want[k], x.rope(k, 3));
        }
    }

    private static void kindsDownAndUp() {
        DuskOnRopes x = Check.laid("r0,3,0,20;r1,3,1,20;r2,3,2,20;r3,3,3,20;");
        x.hour(15, 0);
        turns("down", x, 23, 24, 23, 23);
        x.hour(0, 0);
        turns("neither", x, 23, 24, 23, 23);
        x.hour(0, 15);
        turns("up", x, 20, 20, 20, 20);
        x.hour(5, 10);
        turns("both ways, an odd hour", x, 23, 16, 23, 20);
        DuskOnRopes edge = Check.laid("r0,5,0,38;r1,5,1,36;r2,5,2,37;r3,5,3,39;");
        edge.hour(15, 0);
        turns("kept within 40", edge, 40, 40, 40, 40);
        DuskOnRopes low = Check.laid("r0,5,0,3;r1,5,1,5;r2,5,2,2;r3,5,3,4;");
        low.hour(0, 15);
        turns("kept within 0", low, 0, 0, 0, 0);
    }

    private static void fraying() {
        for (int start = 0; start <= 40; start++) {
            int still = start % 3 == 0 && start > 0 ? start - 1 : start;
            DuskOnRopes x = Check.laid("r0,1,2," + start + ";");
            x.hour(0, 0);
            turns("frayed, left alone at " + start, x, still);
            int down = Math.min(40, start + 1);
            x = Check.laid("r0,1,2," + start + ";");
            x.hour(1, 0);
            turns("frayed, down from " + start, x, down % 3 == 0 ? down - 1 : down);
            int up = Math.max(0, start - 1);
            x = Check.laid("r0,1,2," + start + ";");
            x.hour(0, 1);
            turns("frayed, up from " + start, x, up % 3 == 0 && up > 0 ? up - 1 : up);
        }
        // 37 and 5 are 42, which 3 parts, but the rope ends at 40.
        DuskOnRopes end = Check.laid("r0,5,2,37;");
        end.hour(1, 0);
        turns("frayed, at its end", end, 40);
    }

    private static void sticking() {
        DuskOnRopes x = Check.laid("r0,4,3,10;");
        int[] want = {14, 14, 18, 18, 22};
        for (int i = 0; i < want.length; i++) {
            x.hour(1, 0);
            turns("stuck, hour " + i, x, want[i]);
        }
        x.hour(0, 1);
        turns("stuck, up in hour 5", x, 22);
        x.hour(0, 1);
        turns("stuck, up in hour 6", x, 18);
    }

    private static void costs() {
        DuskOnRopes x = Check.laid("r0,1,0,0;r1,1,3,0;r2,1,1,0;r3,1,2,0;r4,1,3,0;c3,7;");
        Check.due("hour(0, 0)", 0, x.hour(0, 0));
        Check.due("hour(31, 0), stuck ones cost", 15, x.hour(31, 0));
        Check.due("hour(0, 31)", 35, x.hour(0, 31));
        Check.due("hour(18, 5)", 20, x.hour(18, 5));
        Check.due("spent(0)", 70, x.spent(0));
        Check.due("spent(1)", 4, x.spent(1));
        DuskOnRopes free = Check.laid("c0,0;r0,1,0,0;");
        Check.due("hour(1, 0) for nothing", 0, free.hour(1, 0));
        Check.due("rope(0, 3)", 1, free.rope(0, 3));
    }

    private static void wrongHours() {
        DuskOnRopes x = Check.laid("r0,1,0,5;r1,1,2,6;");
        int[][] wrong = {{4, 0}, {0, 4}, {-1, 0}, {0, -1}, {1, 1}, {3, 2}, {2, 3}, {32, 0}, {Integer.MIN_VALUE, 0},
            {0, Integer.MIN_VALUE}, {Integer.MAX_VALUE, 0}};
        for (int[] sets : wrong) {
            Check.due("hour(" + sets[0] + ", " + sets[1] + ")", BAD, x.hour(sets[0], sets[1]));
        }
        turns("nothing has changed", x, 5, 6);
        Check.due("spent(1)", 0, x.spent(1));
        Check.due("count(4)", 0, x.count(4));
    }

    private static void ninetyNine() {
        DuskOnRopes x = Check.laid("r0,1,3,0;r9,1,0,0;c9,9;");
        for (int i = 0; i < 99; i++) {
            Check.due("hour " + i, 9, x.hour(2, 0));
        }
        Check.due("the 100th hour", NO, x.hour(1, 0));
        Check.due("the 100th hour, of none", BAD, x.hour(1, 1));
        Check.due("spent(0)", 891, x.spent(0));
        Check.due("spent(1)", 99, x.spent(1));
        Check.due("count(4)", 8, x.count(4));
        Check.due("soon(0, 1) goes on, hour 99 is odd", 20, x.soon(0, 1));
        Check.due("paces(0, 3, 2), hours 99 to 101", 4, x.paces(0, 3, 2));
        Check.due("grease(0)", 3, x.grease(0));
        Check.due("undo() of greasing", 7, x.undo());
        Check.due("undo()", 6, x.undo());
        Check.due("hour(0, 0) goes again", 0, x.hour(0, 0));
        Check.due("the 100th hour again", NO, x.hour(0, 0));
    }

    private static void greasing() {
        DuskOnRopes x = Check.laid("r0,2,0,5;r1,2,1,5;r2,2,2,6;r3,2,3,5;");
        for (int k = 0; k < 4; k++) {
            Check.due("grease(" + k + ")", k, x.grease(k));
            Check.due("rope(" + k + ", 2)", 1, x.rope(k, 2));
            Check.due("count(4)", k + 1, x.count(4));
        }
        turns("greasing winds nothing", x, 5, 5, 6, 5);
        Check.due("spent(0)", 0, x.spent(0));
        Check.due("spent(1)", 0, x.spent(1));
        x.hour(0, 0);
        x.hour(15, 0);
        turns("greased", x, 8, 8, 9, 8);
        for (int wrong : new int[] {-1, 4, 5, Integer.MIN_VALUE, Integer.MAX_VALUE}) {
            Check.due("grease(" + wrong + ")", BAD, x.grease(wrong));
        }
        Check.due("count(4)", 6, x.count(4));
    }

    private static void undoing() {
        DuskOnRopes x = Check.laid("r0,2,0,5;r1,2,2,7;c1,3;");
        Check.due("undo() of nothing", NO, x.undo());
        x.hour(3, 0);
        x.grease(1);
        x.grease(1);
        x.hour(0, 3);
        Check.due("spent(0)", 8, x.spent(0));
        x.seen(4, 4);
        Check.due("undo()", 3, x.undo());
        turns("undone", x, 7, 8);
        Check.due("spent(0)", 2, x.spent(0));
        Check.due("spent(1)", 1, x.spent(1));
        Check.due("undo() of greasing by which nothing changed", 2, x.undo());
        Check.due("rope(1, 2)", 1, x.rope(1, 2));
        Check.due("undo() of greasing", 1, x.undo());
        Check.due("rope(1, 2)", 2, x.rope(1, 2));
        Check.due("undo()", 0, x.undo());
        turns("all undone", x, 5, 7);
        Check.due("spent(0)", 0, x.spent(0));
        Check.due("spent(1)", 0, x.spent(1));
        Check.due("undo() at the end", NO, x.undo());
        Check.due("what was seen stays", 1, x.count(3));
        for (int i = 0; i < 11; i++) {
            x.hour(1, 0);
            Check.due("count(4)", Math.min(8, i + 1), x.count(4));
        }
        for (int left = 7; left >= 0; left--) {
            Check.due("undo()", left, x.undo());
            turns("behind it", x, 5 + 2 * (3 + left));
        }
        Check.due("undo() of the ninth", NO, x.undo());
        Check.due("spent(1)", 3, x.spent(1));
        Check.due("spent(0)", 3, x.spent(0));
        x.hour(0, 0);
        Check.due("count(4)", 1, x.count(4));
    }
}
