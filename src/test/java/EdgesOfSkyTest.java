import java.io.IOException;

/** Boundaries of the sky, its light, and of promises 6 to 8. */
public final class EdgesOfSkyTest {
    public static void main(String[] args) throws IOException {
        Edges.runAll(EdgesOfSkyTest.class);
    }

    // ---- ropes, promise 6

    @Says({"`int rope(int k, int what)`", "BAD: a number is none that is told (ROPES, wants, MEN, YARDS: such as there are;"})
    static void ropesAreSuchAsThereAre() {
        Run.laid("r7,2,1,3;").due("rope(-1,0)=BAD rope(0,0)=7 rope(1,0)=BAD rope(4,0)=BAD rope(5,0)=BAD");
        Run.fresh().due("rope(3,0)=21 rope(4,0)=BAD");
        Run.laid("r7,2,1,3;r6,1,0,0;r5,1,0,0;r4,1,0,0;r3,1,0,0;")
            .due("rope(-1,3)=BAD rope(0,0)=7 rope(4,0)=3 rope(5,0)=BAD rope(6,0)=BAD rope(32,0)=BAD")
            .all("BAD", "rope(MIN,0)", "rope(MAX,0)", "rope(MIN,MIN)", "rope(MAX,MAX)");
    }

    @Says("Of a ROPE: YARD (what = 0), P (1), KIND (2), TURNS (3). BAD.")
    static void whatOfRopeIs0To3() {
        Run.laid("r7,2,1,3;").due("rope(0,-1)=BAD rope(0,0)=7 rope(0,1)=2 rope(0,2)=1 rope(0,3)=3 rope(0,4)=BAD")
            .all("BAD", "rope(0,MIN)", "rope(0,MAX)", "rope(0,-2)", "rope(0,5)", "rope(1,4)", "rope(-1,-1)");
    }

    @Says("Of a ROPE: YARD (what = 0), P (1), KIND (2), TURNS (3). BAD.")
    static void leastAndGreatestOfRope() {
        Run.laid("r0,1,0,0;r23,5,3,40;").due("rope(0,0)=0 rope(0,1)=1 rope(0,2)=0 rope(0,3)=0")
            .due("rope(1,0)=23 rope(1,1)=5 rope(1,2)=3 rope(1,3)=40");
    }

    @Says("Of a ROPE: YARD (what = 0), P (1), KIND (2), TURNS (3). BAD.")
    static void askingForRopeChangesNothing() {
        Run.laid("r7,2,2,3;r9,1,0,5;").due("hour(1,2)=3").refuses("rope(0,3)=5 rope(1,2)=0 rope(2,0)=BAD rope(0,4)=BAD");
    }

    // ---- the sky, promise 7

    @Says({"THE SKY over a YARD. BAD.", "YARDS: such as there are"})
    static void skyIsOverYards0To23() {
        Run.laid("r0,1,0,11;r23,1,0,17;").due("sky(-1)=BAD sky(0)=11 sky(23)=17 sky(24)=BAD")
            .all("BAD", "sky(MIN)", "sky(MAX)", "sky(-2)", "sky(25)", "sky(32)", "sky(40)");
    }

    @Says("under a ROPE as many as are let out")
    static void underRopeAsManyAsAreLetOut() {
        Run.laid("r1,1,0,40;r2,1,0,0;r3,1,0,40;r4,1,0,1;r5,1,0,39;").due("sky(1)=40 sky(2)=0 sky(3)=40 sky(4)=1 sky(5)=39");
    }

    @Says("by the YARDS between them, cut")
    static void betweenRopesIsCut() {
        // 40 and 39 over 23 yards: all but the first are a part above 39; 0 and 1: all but the last a part above 0.
        Run fall = Run.laid("r0,1,0,40;r23,1,0,39;").due("sky(0)=40");
        Run rise = Run.laid("r23,1,0,1;r0,1,0,0;").due("sky(23)=1");
        for (int y = 1; y < 23; y++) {
            fall.due("sky(" + y + ")=39");
            rise.due("sky(" + y + ")=0");
        }
        // 0 and 40 by 3: 13 and a third, 26 and two thirds. What parts evenly is not cut.
        Run.laid("r5,1,0,0;r8,1,0,40;").due("sky(6)=13 sky(7)=26");
        Run.laid("r5,1,0,0;r9,1,0,40;").due("sky(6)=10 sky(7)=20 sky(8)=30");
    }

    @Says("between two next ones (by YARDS) a and b")
    static void nextRopesAreNextByYardsNotByNumber() {
        // By number ropes 0 and 1, 1 and 2 are next; by yards 4, 10 and 20 are.
        Run.laid("r20,1,0,20;r4,1,0,40;r10,1,0,10;").due("sky(5)=35 sky(9)=15 sky(11)=11 sky(19)=19 sky(15)=15");
        Run.laid("r22,1,0,0;r2,1,0,40;r12,1,0,20;r7,1,0,0;r17,1,0,40;").due("sky(3)=32 sky(6)=8 sky(8)=4 sky(11)=16")
            .due("sky(13)=24 sky(16)=36 sky(18)=32 sky(21)=8");
    }

    @Says("beyond the outermost ones as under these")
    static void beyondOutermostRopesAsUnderThese() {
        Run.laid("r22,1,0,7;r1,1,0,33;").due("sky(0)=33 sky(1)=33 sky(2)=31 sky(21)=8 sky(22)=7 sky(23)=7");
        Run.laid("r13,1,0,7;r12,1,0,33;").due("sky(0)=33 sky(11)=33 sky(12)=33 sky(13)=7 sky(14)=7 sky(23)=7");
    }

    @Says("beyond the outermost ones as under these")
    static void oneRopeHoldsAllTheSky() {
        for (int yard : new int[] {0, 11, 23}) {
            Run run = Run.laid("r" + yard + ",1,0,31;");
            for (int y = 0; y < 24; y++) {
                run.due("sky(" + y + ")=31");
            }
        }
    }

    @Says("beyond the outermost ones as under these")
    static void ropesOverTheOutermostYardsHaveNothingBeyond() {
        Run.laid("r23,1,0,0;r0,1,0,23;").due("sky(0)=23 sky(1)=22 sky(11)=12 sky(22)=1 sky(23)=0 sky(-1)=BAD sky(24)=BAD");
    }

    @Says("between two next ones (by YARDS) a and b")
    static void ropesOverNeighbouringYardsHaveNothingBetween() {
        Run.laid("r11,1,0,3;r12,1,0,38;").due("sky(10)=3 sky(11)=3 sky(12)=38 sky(13)=38");
    }

    @Says("THE SKY over a YARD. BAD.")
    static void skyIsAsRopesAreNow() {
        Run.laid("r0,5,0,0;r4,1,0,0;").due("sky(2)=0 hour(1,0)=1 sky(2)=2 hour(1,0)=1 sky(2)=5 undo()=1 sky(2)=2")
            .refuses("sky(2)=2 sky(24)=BAD sky(-1)=BAD");
    }

    // ---- light, promise 8

    @Says("LIGHT of a YARD is NOON (0) at 0 to 9 TURNS, BLUE (1) at 10 to 19")
    static void noonIsFrom0To9() {
        Run.laid("r3,1,0,0;").due("light(3)=0");
        Run.laid("r3,1,0,9;").due("light(3)=0 hour(1,0)=1 light(3)=1");
    }

    @Says("BLUE (1) at 10 to 19")
    static void blueIsFrom10To19() {
        Run.laid("r3,1,0,10;").due("light(3)=1 hour(0,1)=2 light(3)=0");
        Run.laid("r3,1,0,19;").due("light(3)=1 hour(1,0)=1 light(3)=2");
    }

    @Says("BROWN (2) at 20 to 29")
    static void brownIsFrom20To29() {
        Run.laid("r3,1,0,20;").due("light(3)=2 hour(0,1)=2 light(3)=1");
        Run.laid("r3,1,0,29;").due("light(3)=2 hour(1,0)=1 light(3)=3");
    }

    @Says("NIGHT (3) from 30 on")
    static void nightIsFrom30To40() {
        Run.laid("r3,1,0,30;").due("light(3)=3 hour(0,1)=2 light(3)=2");
        Run.laid("r3,1,0,39;").due("light(3)=3 hour(1,0)=1 sky(3)=40 light(3)=3 hour(1,0)=1 light(3)=3");
    }

    @Says("LIGHT of a YARD is NOON (0) at 0 to 9 TURNS")
    static void lightIsThatOfTheSkyThatIsCut() {
        Run.laid("r0,1,0,9;r2,1,0,10;r4,1,0,9;").due("light(0)=0 light(1)=0 light(2)=1 light(3)=0 light(4)=0 light(23)=0");
        Run.laid("r0,1,0,19;r2,1,0,20;").due("light(0)=1 light(1)=1 light(2)=2 light(23)=2");
        Run.laid("r0,1,0,29;r2,1,0,30;").due("light(0)=2 light(1)=2 light(2)=3 light(23)=3");
    }

    @Says({"LIGHT of a YARD. BAD.", "YARDS: such as there are"})
    static void lightIsOfYards0To23() {
        Run.laid("r0,1,0,11;r23,1,0,37;").due("light(-1)=BAD light(0)=1 light(23)=3 light(24)=BAD")
            .all("BAD", "light(MIN)", "light(MAX)", "light(-2)", "light(25)", "light(32)")
            .refuses("light(24)=BAD light(-1)=BAD light(0)=1");
    }
}
