/** Promises 12 to 18: wants met, noon left, how soon, the plan, the rope to grease, the posts, what is brown. */
public final class LightTest {
    private static final int BAD = DuskOnRopes.BAD, NONE = DuskOnRopes.NONE;
    private static final int MIN = Integer.MIN_VALUE, MAX = Integer.MAX_VALUE;

    public static void main(String[] args) {
        met();
        noon();
        soon();
        plans();
        planTies();
        grease();
        posts();
        brown();
        Check.end("LightTest");
    }

    private static void met() {
        DuskOnRopes x = Check.laid("r0,1,0,0;r20,1,0,40;w0,0;w5,1;w10,2;w15,3;w4,1;w15,2;w23,3;w20,3;");
        Check.due("met()", 1 + 2 + 4 + 8 + 64 + 128, x.met());
        x.hour(0, 2);
        Check.due("met() an hour on", 1 + 32 + 64 + 128, x.met());
        Check.due("met() without wants", 0, Check.laid("r0,1,0,0;").met());
    }

    private static void noon() {
        Check.due("noon()", 0, new DuskOnRopes().noon());
        DuskOnRopes x = Check.laid("r0,5,0,23;r23,1,0,0;");
        Check.due("noon(), 9 low at 14", 14, x.noon());
        Check.due("noon() beyond the last", 23, Check.laid("r0,1,0,40;r22,1,0,10;r23,1,0,9;").noon());
        Check.due("noon()", NONE, Check.laid("r7,1,0,10;").noon());
        Check.due("noon()", 0, Check.laid("r7,1,0,9;").noon());
    }

    private static void soon() {
        DuskOnRopes x = Check.laid("r3,1,0,6;r20,1,3,0;");
        Check.due("soon(0, 0)", 0, x.soon(0, 0));
        Check.due("soon(0, 1)", 4, x.soon(0, 1));
        Check.due("soon(0, 2)", 14, x.soon(0, 2));
        Check.due("soon(0, 3), at the 24th", 24, x.soon(0, 3));
        Check.due("soon(23, 1), by even hours", 19, x.soon(23, 1));
        Check.due("soon(23, 2)", NONE, x.soon(23, 2));
        x.hour(0, 1);
        Check.due("soon(0, 3), at the 25th", NONE, x.soon(0, 3));
        Check.due("soon(23, 1), from an odd hour on", 20, x.soon(23, 1));
        Check.due("soon(0, 0) of darker", 0, Check.laid("r0,1,0,40;").soon(0, 0));
        int[][] wrong = {{-1, 0}, {24, 0}, {0, -1}, {0, 4}, {MIN, 0}, {0, MAX}, {MAX, 3}, {24, 3}};
        for (int[] call : wrong) {
            Check.due("soon(" + call[0] + ", " + call[1] + ")", BAD, x.soon(call[0], call[1]));
        }
        Check.due("nothing changes", 5, x.rope(0, 3));
        Check.due("nothing changes", 1, x.spent(1));
    }

    private static void plan(DuskOnRopes x, int all, int... hours) {
        Check.due("plan(-1)", all, x.plan(-1));
        for (int k = 0; k < hours.length; k++) {
            Check.due("plan(" + k + ")", hours[k], x.plan(k));
        }
        Check.due("plan beyond the ropes", BAD, x.plan(hours.length));
        Check.due("plan(-2)", BAD, x.plan(-2));
        Check.due("plan of the least", BAD, x.plan(MIN));
        Check.due("plan of the most", BAD, x.plan(MAX));
    }

    private static void plans() {
        plan(Check.laid("r0,5,0,0;r12,5,0,0;"), 0, 0, 0);
        plan(Check.laid("r0,5,0,0;w0,2;"), 4, 4);
        plan(Check.laid("r0,4,0,0;w0,2;"), NONE, NONE);
        plan(Check.laid("r0,4,1,0;w0,2;"), 4, 4);
        plan(Check.laid("r0,5,0,10;w0,0;"), NONE, NONE);
        plan(Check.laid("r0,5,0,12;r23,5,0,9;w0,2;w23,1;"), 3, 2, 1);
        // A frayed rope that is left alone slips out of its light: 12, 11; wound for an hour it stays, 14.
        plan(Check.laid("r0,2,2,12;w0,1;"), 0, 0);
        plan(Check.laid("r0,1,2,30;w0,3;"), 1, 1);
        // Wound first and left alone then: 27 and 3 slip to 29, 32 stays.
        plan(Check.laid("r0,3,2,27;w0,3;"), 2, 2);
        // Stuck: from an odd hour on, hour 1 and 3 do nothing.
        DuskOnRopes stuck = Check.laid("r0,5,3,6;w0,1;");
        plan(stuck, 1, 1);
        stuck.hour(0, 0);
        plan(stuck, 2, 2);
        plan(Check.laid("r0,5,0,0;w0,0;w0,1;"), NONE, NONE);
        Check.due("nothing changes", 1, stuck.spent(1));
        Check.due("nothing changes", 6, stuck.rope(0, 3));
        stuck.hour(0, 1);
        Check.due("plan(-1) anew, 6 and 5", 1, stuck.plan(-1));
        stuck.hour(0, 1);
        Check.due("plan(-1) anew, 1 and 10 by an odd hour first", 4, stuck.plan(-1));
    }

    private static void planTies() {
        // Yard 1 lies between both: either rope can do it, and by rope 0 the least comes first.
        plan(Check.laid("r0,5,0,8;r2,5,0,8;w1,1;"), 1, 0, 1);
        plan(Check.laid("r2,5,0,8;r0,5,0,8;w1,1;"), 1, 0, 1);
        // Fewer hours come before the first way.
        plan(Check.laid("r0,5,0,8;r2,1,0,8;w1,1;"), 1, 1, 0);
        plan(Check.laid("r10,2,0,0;r0,2,0,10;r20,2,0,9;w10,0;w0,1;w20,1;"), 1, 0, 0, 1);
        plan(Check.laid("r0,2,0,8;r4,2,0,8;r8,2,0,8;r12,2,0,8;r16,2,0,8;w2,1;w6,1;w10,1;w14,1;"), 4, 0, 2, 0, 2, 0);
    }

    private static void grease() {
        DuskOnRopes x = Check.laid("r0,1,0,28;r23,1,0,28;");
        Check.due("best(1, 0)", 0, x.best(1, 0));
        Check.due("best(1, 1)", 1, x.best(1, 1));
        Check.due("best(2, 1)", 24, x.best(2, 1));
        DuskOnRopes y = Check.laid("r3,1,0,0;r10,1,1,28;r20,1,0,28;");
        Check.due("a greased one counts: best(1, 0)", 2, y.best(1, 0));
        Check.due("best(1, 1)", 14, y.best(1, 1));
        DuskOnRopes greased = Check.laid("r3,1,1,28;r20,1,0,0;");
        Check.due("best(1, 0)", 0, greased.best(1, 0));
        Check.due("best(1, 1)", 4, greased.best(1, 1));
        DuskOnRopes stuck = Check.laid("r3,5,0,0;r20,5,3,0;");
        Check.due("best(5, 0)", 0, stuck.best(5, 0));
        Check.due("best(5, 1), by 30 and 15", 4, stuck.best(5, 1));
        stuck.hour(0, 0);
        Check.due("best(6, 1), by 36 and 15, by 30 and 36", 24, stuck.best(6, 1));
        Check.due("best(6, 0)", 1, stuck.best(6, 0));
        Check.due("best(12, 0), all are night by either", 0, stuck.best(12, 0));
        DuskOnRopes five = Check.laid("r0,1,0,0;r5,1,0,0;r10,1,0,0;r15,1,0,0;r20,5,0,0;");
        Check.due("best(5, 0) of five", 4, five.best(5, 0));
        Check.due("best(5, 1) of five", 4, five.best(5, 1));
        Check.due("best(1, 0) of five, none by any", 0, five.best(1, 0));
        Check.due("best(1, 1) of five", 0, five.best(1, 1));
        int[][] wrong = {{0, 0}, {13, 0}, {1, -1}, {1, 2}, {MIN, 0}, {MAX, 1}, {1, MIN}, {1, MAX}};
        for (int[] call : wrong) {
            Check.due("best(" + call[0] + ", " + call[1] + ")", BAD, x.best(call[0], call[1]));
        }
        Check.due("nothing changes", 3, stuck.rope(1, 2));
        Check.due("nothing changes", 1, stuck.count(4));
    }

    private static void post(DuskOnRopes x, int all, int... men) {
        Check.due("posts(-1)", all, x.posts(-1));
        for (int k = 0; k < men.length; k++) {
            Check.due("posts(" + k + ")", men[k], x.posts(k));
        }
        for (int wrong : new int[] {men.length, -2, MIN, MAX}) {
            Check.due("posts(" + wrong + ")", BAD, x.posts(wrong));
        }
    }

    private static void posts() {
        post(Check.laid("r5,1,0,0;m5;"), 0, 0);
        post(Check.laid("r5,1,0,0;"), NONE, NONE);
        post(Check.laid("r5,1,0,0;r6,1,0,0;m5;"), NONE, NONE, NONE);
        post(Check.laid("r5,1,0,0;m9;m4;m6;"), 1, 1);
        post(Check.laid("r5,1,0,0;r6,1,0,0;m20;m20;m3;"), 16, 2, 0);
        // Both ropes would have man 0 first; one of them has to give way.
        post(Check.laid("r10,1,0,0;r12,1,0,0;m11;m0;m23;"), 11, 1, 0);
        post(Check.laid("r12,1,0,0;r10,1,0,0;m11;m0;m23;"), 11, 0, 1);
        post(Check.laid("r0,1,0,0;r1,1,0,0;r2,1,0,0;r3,1,0,0;r4,1,0,0;m9;m9;m9;m9;m9;m9;"), 35, 0, 1, 2, 3, 4);
        post(Check.laid("r0,1,0,0;r1,1,0,0;r2,1,0,0;r3,1,0,0;r4,1,0,0;m23;m4;m3;m2;m1;m0;"), 0, 5, 4, 3, 2, 1);
        // A search must not know of the valley before.
        DuskOnRopes again = Check.laid("r5,1,0,0;m5;");
        post(again, 0, 0);
        Check.write(again, "r5,1,0,0;m9;");
        again.lay();
        post(again, 4, 0);
        Check.write(again, "r5,1,0,0;r6,1,0,0;m9;");
        again.lay();
        post(again, NONE, NONE, NONE);
    }

    private static void brownIs(DuskOnRopes x, int all, int row, int first) {
        Check.due("brown(0)", all, x.brown(0));
        Check.due("brown(1)", row, x.brown(1));
        Check.due("brown(2)", first, x.brown(2));
        for (int wrong : new int[] {-1, 3, MIN, MAX}) {
            Check.due("brown(" + wrong + ")", BAD, x.brown(wrong));
        }
    }

    private static void brown() {
        brownIs(new DuskOnRopes(), 0, 0, NONE);
        brownIs(Check.laid("r4,1,0,20;"), 24, 24, 0);
        brownIs(Check.laid("r4,1,0,29;"), 24, 24, 0);
        brownIs(Check.laid("r4,1,0,19;"), 0, 0, NONE);
        brownIs(Check.laid("r4,1,0,30;"), 0, 0, NONE);
        // Down to 0 in the midst and up again: two rows as long, the first one counts.
        brownIs(Check.laid("r0,1,0,29;r9,1,0,2;r14,1,0,2;r23,1,0,29;"), 8, 4, 0);
        // The second row is longer, and ends with the last yard.
        brownIs(Check.laid("r0,1,0,20;r1,1,0,0;r20,1,0,0;r21,1,0,25;"), 4, 3, 21);
        brownIs(Check.laid("r0,1,0,40;r8,1,0,0;"), 2, 2, 3);
    }
}
