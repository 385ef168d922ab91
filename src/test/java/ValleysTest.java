/** Promises 1 to 8: a new object, the text, its fault, what is laid, the sky and its light. */
public final class ValleysTest {
    private static final int BAD = DuskOnRopes.BAD, NO = DuskOnRopes.NO;
    private static final int FULL = DuskOnRopes.FULL, NONE = DuskOnRopes.NONE;
    private static final int[] WRONG = {Integer.MIN_VALUE, -2, -1, 99, Integer.MAX_VALUE};

    public static void main(String[] args) {
        newObject();
        writing();
        wiping();
        faults();
        laying();
        ropes();
        skies();
        lights();
        Check.end("ValleysTest");
    }

    private static void newObject() {
        DuskOnRopes x = new DuskOnRopes();
        int[] counts = {4, 3, 5, 0, 0, 0, 0};
        for (int what = 0; what < counts.length; what++) {
            Check.due("new: count(" + what + ")", counts[what], x.count(what));
        }
        int[][] ropes = {{2, 3, 0, 0}, {9, 2, 2, 4}, {15, 4, 1, 0}, {21, 5, 3, 6}};
        for (int k = 0; k < 4; k++) {
            for (int what = 0; what < 4; what++) {
                Check.due("new: rope(" + k + ", " + what + ")", ropes[k][what], x.rope(k, what));
            }
        }
        Check.due("new: spent(0)", 0, x.spent(0));
        Check.due("new: spent(1)", 0, x.spent(1));
        Check.due("new: undo()", NO, x.undo());
        Check.due("new: back()", NO, x.back());
        Check.due("new: fault()", NONE, x.fault());
        Check.due("new: lay()", NO, x.lay());
        Check.due("new: rope(4, 0)", BAD, x.rope(4, 0));
    }

    private static void writing() {
        DuskOnRopes x = new DuskOnRopes();
        Check.due("write(31)", BAD, x.write(31));
        Check.due("write(127)", BAD, x.write(127));
        Check.due("write(-1)", BAD, x.write(-1));
        Check.due("write(65536 + 114)", BAD, x.write(65536 + 114));
        Check.due("write(32)", 1, x.write(32));
        Check.due("write(126)", 2, x.write(126));
        for (int length = 3; length <= 200; length++) {
            Check.due("write to " + length, length, x.write('r'));
        }
        Check.due("write beyond 200", FULL, x.write('r'));
        Check.due("write beyond 200, of none", BAD, x.write(31));
        Check.due("count(6)", 200, x.count(6));
        Check.due("fault()", 0, x.fault());
    }

    private static void wiping() {
        DuskOnRopes x = new DuskOnRopes();
        Check.due("wipe()", 0, x.wipe());
        Check.write(x, "m3;zz");
        Check.due("fault()", 3, x.fault());
        Check.due("wipe()", 5, x.wipe());
        Check.due("count(6)", 0, x.count(6));
        Check.due("fault()", NONE, x.fault());
        Check.due("count(0)", 4, x.count(0));
    }

    private static void faultOf(String text, int want) {
        DuskOnRopes x = new DuskOnRopes();
        Check.write(x, text);
        Check.due("fault() of " + text, want, x.fault());
        if (want != NONE) {
            Check.due("lay() of " + text, NO, x.lay());
            Check.due("count(0) behind " + text, 4, x.count(0));
        }
        Check.due("count(6) behind " + text, text.length(), x.count(6));
    }

    private static void faults() {
        String[] fine = {"r0,1,0,0;", "r23,5,3,40;", "r07,05,00,09;", "w0,0;", "w23,3;", "m0;", "m23;", "c0,0;", "c9,9;",
            "c09,00;", "c1,1;c2,2;c3,3;", "m9;m9;m9;m9;m9;m9;", "w5,1;w5,1;w5,2;w5,3;w5,0;w6,0;w7,0;w8,0;",
            "r0,1,0,0;r1,1,0,0;r2,1,0,0;r3,1,0,0;r4,1,0,0;", "m1;r3,3,3,3;w1,1;c0,9;r4,4,1,4;"};
        for (String text : fine) {
            faultOf(text, NONE);
        }
        String[] broken = {"r24,1,0,0;", "r0,0,0,0;", "r0,6,0,0;", "r0,1,4,0;", "r0,1,0,41;", "r0,1,0;", "r0,1,0,0,0;",
            "r0,1,0,0", "r0,1,0,", "r", "r,1,0,0;", "r000,1,0,0;", "r0,1,0,004;", "r-1,1,0,0;", "r 0,1,0,0;", "R0,1,0,0;",
            "r0;1;0;0;", "w24,0;", "w0,4;", "w0;", "w0,0,0;", "w0,0", "m24;", "m;", "m1,1;", "m1", "m100;", "c10,0;",
            "c0,10;", "c1;", "c1,2,3;", "c1,2", ";", ",", "x", " ", "1", "c1,,2;", "w1,2;;"};
        for (String text : broken) {
            faultOf(text, text.equals("w1,2;;") ? 5 : 0);
            faultOf("m1;r5,1,0,0;" + text, text.equals("w1,2;;") ? 17 : 12);
        }
        faultOf("r3,1,0,0;m3;r3,2,0,0;", 12);
        faultOf("r3,1,0,0;r03,2,0,0;x", 9);
        faultOf("r0,1,0,0;r1,1,0,0;r2,1,0,0;r3,1,0,0;r4,1,0,0;r5,1,0,0;", 45);
        faultOf("w1,1;w1,1;w1,1;w1,1;w1,1;w1,1;w1,1;w1,1;w1,1;", 40);
        faultOf("m1;m1;m1;m1;m1;m1;m1;", 18);
        faultOf("m1; m2;", 3);
    }

    private static void laying() {
        DuskOnRopes x = new DuskOnRopes();
        x.hour(1, 2);
        x.grease(1);
        x.keep();
        x.seen(3, 3);
        Check.write(x, "w1,1;m2;c3,4;");
        Check.due("fault() without a rope", NONE, x.fault());
        Check.due("lay() without a rope", NO, x.lay());
        int[] before = {4, 3, 5, 1, 2, 1, 13};
        for (int what = 0; what < 7; what++) {
            Check.due("count(" + what + ") behind NO", before[what], x.count(what));
        }
        Check.due("spent(1) behind NO", 1, x.spent(1));
        Check.write(x, "c3,4;r7,2,2,9;w1,1;c5,6;m2;m3;r5,1,3,8;");
        Check.due("lay()", 2, x.lay());
        int[] behind = {2, 1, 2, 0, 0, 0, 39};
        for (int what = 0; what < 7; what++) {
            Check.due("count(" + what + ") behind lay()", behind[what], x.count(what));
        }
        Check.due("spent(0) behind lay()", 0, x.spent(0));
        Check.due("spent(1) behind lay()", 0, x.spent(1));
        Check.due("undo() behind lay()", NO, x.undo());
        Check.due("back() behind lay()", NO, x.back());
        Check.due("rope(1, 0)", 5, x.rope(1, 0));
        Check.due("the last c counts", 11, x.hour(1, 2));
        Check.due("lay() anew, the text stays", 2, x.lay());
        Check.due("rope(0, 3) anew", 9, x.rope(0, 3));
        Check.due("hour number anew", 0, x.spent(1));
        Check.due("1, 2 without a c", 3, Check.laid("r1,1,0,1;r2,1,0,1;").hour(1, 2));
        // What an earlier valley had must not shine through, nor what a faulty text began.
        Check.write(x, "r9,9");
        Check.due("lay() of a fault", NO, x.lay());
        Check.due("rope(0, 0) as before", 7, x.rope(0, 0));
        Check.write(x, "r4,4,0,12;");
        Check.due("lay()", 1, x.lay());
        Check.due("count(1)", 0, x.count(1));
        Check.due("count(2)", 0, x.count(2));
        Check.due("met()", 0, x.met());
        Check.due("hour(1, 0), the costs are new too", 1, x.hour(1, 0));
    }

    private static void ropes() {
        DuskOnRopes x = Check.laid("r20,5,2,33;r3,4,1,17;");
        int[][] ropes = {{20, 5, 2, 33}, {3, 4, 1, 17}};
        for (int k = 0; k < 2; k++) {
            for (int what = 0; what < 4; what++) {
                Check.due("rope(" + k + ", " + what + ")", ropes[k][what], x.rope(k, what));
            }
            Check.due("rope(k, 4)", BAD, x.rope(k, 4));
        }
        for (int wrong : WRONG) {
            Check.due("rope(" + wrong + ", 0)", BAD, x.rope(wrong, 0));
            Check.due("rope(0, " + wrong + ")", BAD, x.rope(0, wrong));
            Check.due("sky(" + wrong + ")", BAD, x.sky(wrong));
            Check.due("light(" + wrong + ")", BAD, x.light(wrong));
        }
        Check.due("rope(2, 0)", BAD, x.rope(2, 0));
        Check.due("sky(24)", BAD, x.sky(24));
        Check.due("light(24)", BAD, x.light(24));
        x.hour(3, 0);
        x.grease(0);
        Check.due("P is as it was", 4, x.rope(1, 1));
        Check.due("TURNS", 22, x.rope(1, 3));
        Check.due("KIND", 1, x.rope(0, 2));
    }

    private static void skies() {
        DuskOnRopes x = Check.laid("r20,1,0,3;r4,1,0,40;r10,1,0,10;");
        int[] low = {40, 40, 40, 40, 40, 35, 30, 25, 20, 15, 10, 9, 8, 7, 7, 6, 5, 5, 4, 3, 3, 3, 3, 3};
        for (int y = 0; y < 24; y++) {
            Check.due("sky(" + y + ")", low[y], x.sky(y));
        }
        DuskOnRopes alone = Check.laid("r13,1,0,31;");
        for (int y = 0; y < 24; y++) {
            Check.due("alone: sky(" + y + ")", 31, alone.sky(y));
        }
        DuskOnRopes beside = Check.laid("r0,1,0,0;r1,1,0,40;r22,1,0,40;r23,1,0,39;");
        Check.due("sky(0)", 0, beside.sky(0));
        Check.due("sky(1)", 40, beside.sky(1));
        Check.due("sky(12)", 40, beside.sky(12));
        Check.due("sky(23)", 39, beside.sky(23));
    }

    private static void lights() {
        int[] turns = {0, 9, 10, 19, 20, 29, 30, 39, 40};
        int[] lights = {0, 0, 1, 1, 2, 2, 3, 3, 3};
        for (int i = 0; i < turns.length; i++) {
            DuskOnRopes x = Check.laid("r11,1,0," + turns[i] + ";");
            Check.due("light(0) at " + turns[i], lights[i], x.light(0));
            Check.due("light(23) at " + turns[i], lights[i], x.light(23));
        }
        DuskOnRopes cut = Check.laid("r0,1,0,9;r2,1,0,10;");
        Check.due("light(1) of 9 and a half", 0, cut.light(1));
        Check.due("light(2)", 1, cut.light(2));
    }
}
