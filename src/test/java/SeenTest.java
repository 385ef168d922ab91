/** Promises 19 to 26: what was seen, slips, paces, chances, costs, evenings. */
public final class SeenTest {
    private static final int BAD = DuskOnRopes.BAD, FULL = DuskOnRopes.FULL, NONE = DuskOnRopes.NONE;
    private static final int MIN = Integer.MIN_VALUE, MAX = Integer.MAX_VALUE;

    public static void main(String[] args) {
        seen();
        slipped();
        look();
        paces();
        slips();
        spent();
        evenings();
        longEvenings();
        Check.end("SeenTest");
    }

    private static void seen() {
        DuskOnRopes x = new DuskOnRopes();
        int[][] wrong = {{-1, 0}, {24, 0}, {0, -1}, {0, 41}, {MIN, 0}, {0, MAX}};
        for (int[] call : wrong) {
            Check.due("seen(" + call[0] + ", " + call[1] + ")", BAD, x.seen(call[0], call[1]));
        }
        Check.due("count(3)", 0, x.count(3));
        Check.due("forget()", 0, x.forget());
        Check.due("seen(0, 0)", 1, x.seen(0, 0));
        Check.due("seen(23, 40)", 2, x.seen(23, 40));
        for (int i = 3; i <= 8; i++) {
            Check.due("the same is seen again", i, x.seen(4, 4));
        }
        Check.due("seen, full", FULL, x.seen(5, 5));
        Check.due("seen, full, of none", BAD, x.seen(5, 41));
        Check.due("count(3)", 8, x.count(3));
        Check.due("forget()", 8, x.forget());
        Check.due("count(3)", 0, x.count(3));
        Check.due("seen(5, 5)", 1, x.seen(5, 5));
    }

    private static void slippedIs(DuskOnRopes x, int all, int first) {
        Check.due("slipped(0)", all, x.slipped(0));
        Check.due("slipped(1)", first, x.slipped(1));
        for (int wrong : new int[] {-1, 2, MIN, MAX}) {
            Check.due("slipped(" + wrong + ")", BAD, x.slipped(wrong));
            Check.due("look(" + wrong + ")", BAD, x.look(wrong));
        }
    }

    private static void slipped() {
        DuskOnRopes x = Check.laid("r0,1,0,10;r10,1,0,10;r20,1,0,35;");
        slippedIs(x, 30, 0);
        x.seen(0, 10);
        slippedIs(x, 21, 0);
        x.seen(10, 10);
        slippedIs(x, 12, 0);
        x.seen(20, 38);
        slippedIs(x, 1, 23);
        x.seen(23, 40);
        slippedIs(x, 0, NONE);
        x.forget();
        // 35 and 5 to 9 all end at 40.
        x.seen(22, 40);
        slippedIs(x, 5, 25);
        x.forget();
        x.seen(5, 14);
        // Yard 5 is half of what either of its ropes has let out more: 8 and 9, cut.
        slippedIs(x, 4, 8);
        x.seen(0, 10);
        slippedIs(x, 2, 18);
        x.forget();
        x.seen(0, 20);
        slippedIs(x, 0, NONE);
        x.forget();
        x.seen(0, 9);
        slippedIs(x, 0, NONE);
        x.hour(1, 0);
        x.forget();
        x.seen(0, 11);
        slippedIs(x, 21, 0);
        Check.due("nothing changes", 35, x.rope(2, 3));
    }

    private static void look() {
        DuskOnRopes x = Check.laid("r0,1,0,10;");
        Check.due("look(0), all yards tell all", 0, x.look(0));
        Check.due("look(1)", 1, x.look(1));
        DuskOnRopes end = Check.laid("r0,1,0,40;");
        Check.due("look(0), no yard tells anything", 0, end.look(0));
        Check.due("look(1)", 10, end.look(1));
        // Over a rope all 10 of the other are alike; midway 0 and 1, 2 and 3, .. of both are.
        DuskOnRopes two = Check.laid("r0,1,0,10;r4,1,0,10;");
        Check.due("look(0)", 2, two.look(0));
        Check.due("look(1)", 4, two.look(1));
        two.seen(4, 10);
        Check.due("rope 0's slips are left, and none: look(0)", 0, two.look(0));
        Check.due("look(1)", 2, two.look(1));
        two.seen(4, 11);
        Check.due("look(0) of nothing", NONE, two.look(0));
        Check.due("look(1) of nothing", NONE, two.look(1));
        Check.due("look(2) of nothing", BAD, two.look(2));
    }

    private static void paces() {
        DuskOnRopes x = Check.laid("r0,1,0,10;r1,1,1,10;r2,1,2,10;r3,1,3,10;r4,5,0,38;");
        for (int pace = 1; pace <= 5; pace++) {
            Check.due("sound", 1 << pace, x.paces(0, 2, 10 + 2 * pace));
            Check.due("greased", 1 << pace, x.paces(1, 2, 12 + 2 * pace));
            Check.due("stuck, hours 0 to 2", 1 << pace, x.paces(3, 3, 10 + 2 * pace));
        }
        Check.due("frayed, 11 by 1 and 12 by 2", 6, x.paces(2, 1, 11));
        Check.due("frayed, 13", 8, x.paces(2, 1, 13));
        Check.due("frayed, 14 by 4 and 15 by 5", 48, x.paces(2, 1, 14));
        Check.due("frayed, 12 by none", 0, x.paces(2, 1, 12));
        Check.due("at the end", 60, x.paces(4, 1, 40));
        Check.due("at the end", 2, x.paces(4, 1, 39));
        Check.due("at the end, in 8 hours", 62, x.paces(4, 8, 40));
        Check.due("never up", 0, x.paces(0, 1, 0));
        x.hour(0, 0);
        Check.due("stuck, hour 1", 62, x.paces(3, 1, 10));
        Check.due("stuck, hours 1 to 3", 4, x.paces(3, 3, 12));
        int[][] wrong = {{-1, 1, 0}, {5, 1, 0}, {0, 0, 0}, {0, 9, 0}, {0, 1, -1}, {0, 1, 41}, {MIN, 1, 0}, {0, MAX, 0},
            {0, 1, MIN}, {MAX, MAX, MAX}};
        for (int[] c : wrong) {
            Check.due("paces(" + c[0] + ", " + c[1] + ", " + c[2] + ")", BAD, x.paces(c[0], c[1], c[2]));
        }
        Check.due("nothing changes", 10, x.rope(0, 3));
    }

    private static void slip(DuskOnRopes x, int k, int n, int tenths, int u, int above, int below) {
        String call = "slips(" + k + ", " + n + ", " + tenths + ", " + u + ", ";
        Check.due(call + "0)", above, x.slips(k, n, tenths, u, 0));
        Check.due(call + "1)", below, x.slips(k, n, tenths, u, 1));
    }

    private static void slips() {
        DuskOnRopes x = Check.laid("r0,5,1,21;r1,1,0,2;r2,1,2,30;r3,1,3,9;");
        slip(x, 0, 0, 5, 2, 1, 1);
        slip(x, 0, 0, 5, 1, 0, 1);
        slip(x, 0, 1, 10, 2, 1, 1);
        slip(x, 0, 2, 10, 2, 0, 1);
        slip(x, 0, 2, 10, 1, 1, 1);
        slip(x, 0, 6, 0, 2, 1, 1);
        slip(x, 0, 2, 5, 1, 1, 4);
        slip(x, 0, 2, 5, 2, 3, 4);
        slip(x, 0, 3, 1, 2, 243, 250);
        slip(x, 0, 6, 3, 2, 16807, 40000);
        slip(x, 2, 1, 4, 3, 3, 5);
        slip(x, 2, 1, 4, 2, 2, 5);
        slip(x, 2, 6, 7, 3, 729, 1000000);
        slip(x, 1, 6, 9, 0, 1, 1);
        slip(x, 3, 6, 9, 0, 1, 1);
        slip(x, 3, 6, 9, 1, 0, 1);
        int[][] wrong = {{-1, 0, 0, 0, 0}, {4, 0, 0, 0, 0}, {0, -1, 0, 0, 0}, {0, 7, 0, 0, 0}, {0, 0, -1, 0, 0},
            {0, 0, 11, 0, 0}, {0, 0, 0, -1, 0}, {0, 0, 0, 4, 0}, {0, 0, 0, 0, -1}, {0, 0, 0, 0, 2}, {MIN, MIN, MIN, MIN, MIN},
            {MAX, MAX, MAX, MAX, MAX}, {0, MAX, 0, 0, 0}};
        for (int[] c : wrong) {
            Check.due("slips of none", BAD, x.slips(c[0], c[1], c[2], c[3], c[4]));
        }
    }

    private static void spent() {
        DuskOnRopes x = Check.laid("r0,1,0,0;r1,1,0,0;c4,9;");
        x.hour(3, 0);
        x.hour(1, 2);
        x.hour(0, 0);
        Check.due("spent(0)", 21, x.spent(0));
        Check.due("spent(1)", 3, x.spent(1));
        for (int wrong : new int[] {-1, 2, MIN, MAX}) {
            Check.due("spent(" + wrong + ")", BAD, x.spent(wrong));
        }
    }

    private static void evenings() {
        // q of z = 0, hour 0 is 1: DRAW 1, so that rope 0 is wound down alone.
        DuskOnRopes x = Check.laid("r0,5,0,25;r1,5,0,25;r2,5,0,35;w0,3;w1,2;w2,3;");
        Check.due("evening(0, 1, 0)", 3, x.evening(0, 1, 0));
        Check.due("evening(0, 1, 1)", 23, x.evening(0, 1, 1));
        // Hour 1: q 6152, DRAW 37847104 modulo 65521 = 41487: down 7 of 7; none is left to haul up.
        Check.due("evening(0, 2, 0)", 2, x.evening(0, 2, 0));
        Check.due("evening(0, 2, 1)", 24, x.evening(0, 2, 1));
        // z = 1: q 7920, DRAW 62726400 modulo 65521 = 22803: down 3; by 32: 712, modulo 8: 0.
        Check.due("evening(1, 1, 1)", 24, x.evening(1, 1, 1));
        // z = 3: q 23758, DRAW 564442564 modulo 65521 = 44670: down 6; by 32: 1395, modulo 8: 3, rope 0 of it up.
        Check.due("evening(3, 1, 0)", 1, x.evening(3, 1, 0));
        Check.due("evening(3, 1, 1)", 23, x.evening(3, 1, 1));
        x.hour(0, 0);
        // Now the first hour told is hour 1.
        Check.due("evening(0, 1, 1) from hour 1", 24, x.evening(0, 1, 1));
        Check.due("nothing changes", 25, x.rope(0, 3));
        Check.due("nothing changes", 1, x.spent(1));
        Check.due("nothing changes", 0, x.spent(0));
        Check.due("nothing changes", 1, x.count(4));
        int[][] wrong = {{-1, 1, 0}, {10000, 1, 0}, {0, 0, 0}, {0, 25, 0}, {0, 1, -1}, {0, 1, 2}, {MIN, 1, 0}, {MAX, 1, 0},
            {0, MAX, 0}, {0, MIN, 0}, {0, 1, MAX}};
        for (int[] c : wrong) {
            Check.due("evening(" + c[0] + ", " + c[1] + ", " + c[2] + ")", BAD, x.evening(c[0], c[1], c[2]));
        }
    }

    /** The answers are from a reckoning of their own, outside Java. */
    private static void longEvenings() {
        DuskOnRopes x = Check.laid("r1,5,0,20;r6,4,2,20;r12,3,1,20;r17,5,3,20;r23,2,0,28;"
            + "w1,3;w6,2;w12,1;w17,2;w23,3;w9,1;w20,2;w3,2;");
        int[][] due = {{1, 2, 3, 1}, {5, 3, 6, 2}, {77, 4, 6, 7}, {9999, 24, 3, 15}, {4242, 7, 4, 10}, {1234, 12, 3, 5}};
        for (int[] row : due) {
            String call = "evening(" + row[0] + ", " + row[1] + ", ";
            Check.due(call + "0)", row[2], x.evening(row[0], row[1], 0));
            Check.due(call + "1)", row[3], x.evening(row[0], row[1], 1));
        }
    }
}
