import java.io.IOException;

/** Boundaries of what an hour does, of greasing and undoing, and of promises 9 to 11. */
public final class EdgesOfHoursTest {
    public static void main(String[] args) throws IOException {
        Edges.runAll(EdgesOfHoursTest.class);
    }

    /** A rope over yard 3, for one hour from turns t: down, up, and neither. */
    private static void oneHour(int pace, int kind, int t, int down, int up, int neither) {
        String text = "r3," + pace + "," + kind + "," + t + ";";
        Run.laid(text).due("hour(1,0)=1 rope(0,3)=" + down);
        Run.laid(text).due("hour(0,1)=2 rope(0,3)=" + up);
        Run.laid(text).due("hour(0,0)=0 rope(0,3)=" + neither);
    }

    // ---- sets, promise 9

    @Says({"An hour (down, up: sets): its cost. BAD (a ROPE in both, too)", "sets of ROPES"})
    static void setsOfOneRopeAre0And1() {
        Run.laid("r3,1,0,5;").due("hour(2,0)=BAD hour(0,2)=BAD hour(-1,0)=BAD hour(0,-1)=BAD hour(3,0)=BAD hour(0,3)=BAD")
            .due("spent(1)=0 hour(1,0)=1 hour(0,1)=2 hour(0,0)=0 spent(1)=3");
    }

    @Says({"An hour (down, up: sets): its cost. BAD (a ROPE in both, too)", "sets of ROPES"})
    static void setsOfFourRopesAre0To15() {
        Run.fresh().due("hour(16,0)=BAD hour(0,16)=BAD hour(31,0)=BAD hour(15,0)=4 hour(0,15)=8 hour(-1,0)=BAD hour(0,-16)=BAD");
    }

    @Says({"An hour (down, up: sets): its cost. BAD (a ROPE in both, too)", "sets of ROPES"})
    static void setsOfFiveRopesAre0To31() {
        Run.laid("r0,1,0,0;r1,1,0,0;r2,1,0,0;r3,1,0,0;r4,1,0,0;")
            .due("hour(32,0)=BAD hour(0,32)=BAD hour(33,0)=BAD hour(31,0)=5 rope(4,3)=1 hour(0,31)=10 rope(4,3)=0")
            .due("hour(15,16)=6 rope(0,3)=1 rope(3,3)=1 rope(4,3)=0 hour(16,15)=9 rope(4,3)=1 rope(0,3)=0")
            .all("BAD", "hour(MIN,0)", "hour(0,MIN)", "hour(MAX,0)", "hour(0,MAX)", "hour(MIN,MAX)", "hour(-32,0)", "hour(64,0)");
    }

    @Says("BAD (a ROPE in both, too)")
    static void ropeInBothSetsIsBad() {
        Run.laid("r0,1,0,5;r1,1,0,5;r2,1,0,5;").due("hour(1,1)=BAD hour(4,4)=BAD hour(7,4)=BAD hour(1,7)=BAD hour(7,7)=BAD")
            .due("hour(3,6)=BAD hour(3,4)=4 rope(0,3)=6 rope(1,3)=6 rope(2,3)=4 hour(5,2)=4 rope(1,3)=5");
    }

    @Says("nothing changes then.")
    static void badHoursChangeNothing() {
        Run.laid("r0,1,2,6;r1,1,0,5;c4,5;").due("hour(2,0)=4 grease(1)=0 keep()=1")
            .refuses("hour(4,0)=BAD hour(0,4)=BAD hour(-1,0)=BAD hour(0,-1)=BAD hour(1,1)=BAD hour(3,2)=BAD hour(MIN,MAX)=BAD");
    }

    @Says({"each ROPE of a set is wound down, or hauled up, or neither", "STUCK: by P, in hours of even number alone."})
    static void emptyHourIsAnHour() {
        Run.laid("r0,2,3,5;").due("hour(0,0)=0 spent(1)=1 count(4)=1 rope(0,3)=5 hour(1,0)=1 rope(0,3)=5 hour(1,0)=1 rope(0,3)=7");
    }

    @Says("NO: 99 have gone by.")
    static void the99thHourGoesThe100thDoesNot() {
        Run.laid("r0,1,0,0;").due("98*hour(0,0)=0 spent(1)=98 hour(1,0)=1 spent(1)=99 rope(0,3)=1 hour(1,0)=NO hour(0,0)=NO")
            .due("hour(0,1)=NO spent(1)=99 spent(0)=1 rope(0,3)=1").refuses("hour(1,0)=NO hour(0,0)=NO");
    }

    @Says({"NO: 99 have gone by.", "Of several the first in this order; nothing changes then."})
    static void badHourBehind99IsBad() {
        Run.laid("r0,1,2,6;").due("99*hour(1,0)=1 hour(2,0)=BAD hour(0,2)=BAD hour(1,1)=BAD hour(-1,0)=BAD hour(1,0)=NO")
            .refuses("hour(1,1)=BAD hour(2,0)=BAD hour(0,-1)=BAD hour(1,0)=NO");
    }

    // ---- turns

    @Says({"TURNS are kept within 0 and 40.", "SOUND: by P down, P less up"})
    static void soundRopesAreKeptWithin() {
        oneHour(5, 0, 34, 39, 29, 34);
        oneHour(5, 0, 35, 40, 30, 35);
        oneHour(5, 0, 36, 40, 31, 36);
        oneHour(5, 0, 40, 40, 35, 40);
        oneHour(5, 0, 6, 11, 1, 6);
        oneHour(5, 0, 5, 10, 0, 5);
        oneHour(5, 0, 4, 9, 0, 4);
        oneHour(5, 0, 0, 5, 0, 0);
        oneHour(1, 0, 39, 40, 38, 39);
        oneHour(1, 0, 1, 2, 0, 1);
    }

    @Says({"TURNS are kept within 0 and 40.", "GREASED: by P and 1, either way"})
    static void greasedRopesAreKeptWithin() {
        oneHour(5, 1, 33, 39, 27, 33);
        oneHour(5, 1, 34, 40, 28, 34);
        oneHour(5, 1, 35, 40, 29, 35);
        oneHour(5, 1, 40, 40, 34, 40);
        oneHour(5, 1, 7, 13, 1, 7);
        oneHour(5, 1, 6, 12, 0, 6);
        oneHour(5, 1, 5, 11, 0, 5);
        oneHour(1, 1, 0, 2, 0, 0);
    }

    @Says({"TURNS are kept within 0 and 40.", "STUCK: by P, in hours of even number alone."})
    static void stuckRopesAreKeptWithin() {
        oneHour(5, 3, 34, 39, 29, 34);
        oneHour(5, 3, 35, 40, 30, 35);
        oneHour(5, 3, 36, 40, 31, 36);
        oneHour(5, 3, 6, 11, 1, 6);
        oneHour(5, 3, 5, 10, 0, 5);
        oneHour(5, 3, 4, 9, 0, 4);
    }

    @Says("FRAYED: by P, either way, then it slips: 1 less, if its TURNS then, kept within 0 and 40, are parted by 3 (but 0)")
    static void frayedRopesSlipAtTurnsPartedBy3() {
        oneHour(1, 2, 10, 11, 8, 10);
        oneHour(1, 2, 11, 11, 10, 11);
        oneHour(1, 2, 12, 13, 11, 11);
        oneHour(3, 2, 15, 17, 11, 14);
    }

    @Says("are parted by 3 (but 0)")
    static void frayedRopesDoNotSlipAt0() {
        oneHour(1, 2, 0, 1, 0, 0);
        oneHour(1, 2, 1, 2, 0, 1);
        oneHour(4, 2, 4, 8, 0, 4);
        oneHour(1, 2, 3, 4, 2, 2);
        oneHour(1, 2, 2, 2, 1, 2);
        oneHour(1, 2, 4, 5, 2, 4);
    }

    @Says("if its TURNS then, kept within 0 and 40, are parted by 3")
    static void frayedRopesSlipByTurnsThatAreKeptWithin() {
        // 42 is parted by 3, but 40, as it is kept, is not; 41 and 43 are kept at 40, too; 39 is parted.
        oneHour(5, 2, 37, 40, 32, 37);
        oneHour(2, 2, 40, 40, 38, 40);
        oneHour(3, 2, 38, 40, 35, 38);
        oneHour(3, 2, 40, 40, 37, 40);
        oneHour(5, 2, 34, 38, 29, 34);
        oneHour(1, 2, 39, 40, 38, 38);
        oneHour(1, 2, 40, 40, 38, 40);
        // 2 less 5 would be parted by 3, below 0.
        oneHour(5, 2, 2, 7, 0, 2);
    }

    @Says("FRAYED ones slip so also in hours in which they are neither wound nor hauled.")
    static void frayedRopesSlipInIdleHoursOnce() {
        Run.laid("r0,1,2,39;r5,1,2,3;r9,1,0,12;r11,1,1,12;r13,1,3,12;").due("hour(0,0)=0 rope(0,3)=38 rope(1,3)=2")
            .due("rope(2,3)=12 rope(3,3)=12 rope(4,3)=12 hour(0,0)=0 rope(0,3)=38 rope(1,3)=2")
            .due("hour(1,0)=1 rope(0,3)=38 rope(1,3)=2");
    }

    @Says("In an hour (0 first, 1, ..)")
    static void stuckRopesMoveInHour0AndNotInHour1() {
        Run.laid("r0,4,3,10;").due("hour(1,0)=1 rope(0,3)=14 hour(1,0)=1 rope(0,3)=14 hour(0,1)=2 rope(0,3)=10")
            .due("hour(0,1)=2 rope(0,3)=10 hour(1,0)=1 rope(0,3)=14");
    }

    @Says({"STUCK: by P, in hours of even number alone.", "NO: 99 have gone by."})
    static void stuckRopesMoveInTheLastHour98() {
        Run.laid("r0,4,3,10;").due("97*hour(0,0)=0 hour(1,0)=1 rope(0,3)=10");
        Run.laid("r0,4,3,10;").due("98*hour(0,0)=0 hour(1,0)=1 rope(0,3)=14 spent(1)=99");
    }

    // ---- costs

    @Says("It costs D for each that is wound down, H for each that is hauled up (STUCK or not).")
    static void stuckRopesCostInOddHoursToo() {
        Run.laid("r0,4,3,10;r2,1,3,9;c7,8;").due("hour(0,0)=0 hour(1,2)=15 rope(0,3)=10 rope(1,3)=9 hour(3,0)=14 hour(0,3)=16");
    }

    @Says("It costs D for each that is wound down, H for each that is hauled up (STUCK or not).")
    static void ropesAtTheirEndsCostToo() {
        Run.laid("r0,4,0,40;r2,1,0,0;c7,8;").due("hour(1,2)=15 rope(0,3)=40 rope(1,3)=0");
    }

    @Says("It costs D for each that is wound down, H for each that is hauled up (STUCK or not).")
    static void leastAndGreatestCosts() {
        Run.laid("r0,1,0,0;r1,1,0,0;r2,1,0,0;r3,1,0,0;r4,1,0,0;c0,0;").due("hour(31,0)=0 hour(0,31)=0 spent(0)=0 spent(1)=2");
        Run.laid("r0,1,0,0;r1,1,0,0;r2,1,0,0;r3,1,0,0;r4,1,0,0;c9,9;").due("99*hour(21,10)=45 spent(0)=4455 spent(1)=99");
    }

    // ---- greasing, promise 10

    @Says({"A ROPE is GREASED: of which KIND it was. BAD.", "ROPES, wants, MEN, YARDS: such as there are"})
    static void greasedRopesAreSuchAsThereAre() {
        Run.laid("r0,1,3,0;").due("grease(-1)=BAD grease(1)=BAD grease(4)=BAD grease(0)=3");
        Run.fresh().due("grease(4)=BAD grease(3)=3 grease(0)=0");
        Run.laid("r0,1,3,0;r1,1,3,0;r2,1,3,0;r3,1,3,0;r4,1,2,0;").due("grease(5)=BAD grease(4)=2 rope(4,2)=1 grease(4)=1")
            .all("BAD", "grease(MIN)", "grease(MAX)", "grease(-2)", "grease(6)", "grease(32)")
            .refuses("grease(5)=BAD grease(-1)=BAD grease(MIN)=BAD");
    }

    @Says("A ROPE can be GREASED: it is of KIND 1 then.")
    static void eachKindBecomesGreased() {
        Run.laid("r0,1,0,9;r1,1,1,9;r2,1,2,9;r3,1,3,9;").due("hour(0,0)=0 rope(2,3)=8")
            .due("grease(0)=0 grease(1)=1 grease(2)=2 grease(3)=3 rope(0,2)=1 rope(1,2)=1 rope(2,2)=1 rope(3,2)=1")
            // In an odd hour: the one that was stuck goes, the one that was frayed comes to 10 and to 12 without slipping.
            .due("hour(15,0)=4 rope(0,3)=11 rope(1,3)=11 rope(2,3)=10 rope(3,3)=11 hour(4,0)=1 rope(2,3)=12 hour(0,0)=0 rope(2,3)=12");
    }

    @Says("A ROPE is GREASED: of which KIND it was. BAD.")
    static void greasingIsNoHourAndGoesBehind99() {
        Run.laid("r0,1,3,9;").due("99*hour(0,0)=0 grease(0)=3 spent(0)=0 spent(1)=99 rope(0,3)=9 hour(1,0)=NO count(4)=8")
            .due("undo()=7 rope(0,2)=3 spent(1)=99");
    }

    // ---- undoing, promise 11

    @Says("UNDONE: how many more can be. NO.")
    static void nothingCanBeUndoneAtFirst() {
        Run.fresh().due("count(4)=0 undo()=NO").refuses("undo()=NO");
        Run.fresh().due("hour(5,2)=4 undo()=0 undo()=NO").refuses("undo()=NO");
        Run.fresh().due("hour(16,0)=BAD grease(4)=BAD undo()=NO");
    }

    @Says("the last 8 can be")
    static void theLast8CanBeUndoneTheNinthNot() {
        Run.laid("r0,1,0,0;").due("7*hour(1,0)=1 count(4)=7 hour(1,0)=1 count(4)=8 hour(1,0)=1 count(4)=8 rope(0,3)=9")
            .due("undo()=7 rope(0,3)=8 undo()=6 undo()=5 undo()=4 undo()=3 undo()=2 undo()=1 rope(0,3)=2 undo()=0 rope(0,3)=1")
            .due("undo()=NO rope(0,3)=1 spent(1)=1 spent(0)=1").refuses("undo()=NO");
        Run.laid("r0,1,0,0;").due("8*hour(1,0)=1 undo()=7 undo()=6 undo()=5 undo()=4 undo()=3 undo()=2 undo()=1 undo()=0")
            .due("rope(0,3)=0 spent(1)=0 undo()=NO");
    }

    @Says("the last 8 can be")
    static void theLast8OfManyAreUndoneInTheirOrder() {
        Run.laid("r0,1,0,0;").due("30*hour(1,0)=1 undo()=7 rope(0,3)=29 undo()=6 rope(0,3)=28 2*hour(0,1)=2 rope(0,3)=26 count(4)=8")
            .due("hour(0,0)=0 count(4)=8 undo()=7 rope(0,3)=26 undo()=6 rope(0,3)=27 undo()=5 rope(0,3)=28 undo()=4 rope(0,3)=27")
            .due("undo()=3 rope(0,3)=26 undo()=2 rope(0,3)=25 undo()=1 rope(0,3)=24 undo()=0 rope(0,3)=23 undo()=NO spent(1)=23");
    }

    @Says("UNDONE is the latest hour, greasing (such by which nothing becomes another, too;")
    static void whatChangedNothingIsUndoneToo() {
        Run.laid("r0,1,1,40;").due("grease(0)=1 count(4)=1 grease(0)=1 count(4)=2 hour(1,0)=1 count(4)=3 hour(0,0)=0 count(4)=4")
            .due("undo()=3 spent(1)=1 undo()=2 spent(1)=0 spent(0)=0 undo()=1 rope(0,2)=1 undo()=0 rope(0,2)=1 undo()=NO");
    }

    @Says("UNDONE is the latest hour, greasing")
    static void hoursAndGreasingShareThe8() {
        Run.laid("r0,1,2,1;").due("hour(1,0)=1 grease(0)=2 7*hour(0,0)=0 count(4)=8 undo()=7 undo()=6 undo()=5 undo()=4 undo()=3")
            .due("undo()=2 undo()=1 spent(1)=1 rope(0,2)=1 undo()=0 rope(0,2)=2 rope(0,3)=2 spent(1)=1 undo()=NO rope(0,3)=2");
    }

    @Says("UNDONE is the latest hour, greasing")
    static void turnsKindsHoursAndCostsAreUndone() {
        Run.laid("r0,5,2,37;r1,1,0,0;c3,4;").due("hour(1,2)=7 rope(0,3)=40 rope(1,3)=0 spent(0)=7 spent(1)=1 undo()=0")
            .due("rope(0,3)=37 rope(1,3)=0 spent(0)=0 spent(1)=0 grease(0)=2 undo()=0 rope(0,2)=2 grease(0)=2 undo()=0");
    }

    @Says({"UNDONE is the latest hour", "STUCK: by P, in hours of even number alone."})
    static void anUndoneHourHasItsNumberAgain() {
        Run.laid("r0,4,3,10;").due("hour(1,0)=1 undo()=0 hour(1,0)=1 rope(0,3)=14 hour(1,0)=1 rope(0,3)=14 undo()=1 undo()=0")
            .due("rope(0,3)=10 hour(0,1)=2 rope(0,3)=6");
    }

    @Says({"UNDONE: how many more can be. NO.", "NO: 99 have gone by."})
    static void undoing99thHourLetsItGoAgain() {
        Run.laid("r0,1,0,0;").due("99*hour(0,0)=0 hour(1,0)=NO undo()=7 spent(1)=98 hour(1,0)=1 spent(1)=99 hour(1,0)=NO count(4)=8");
    }

    @Says({"UNDONE is the latest hour, greasing", "SEEN (8 at most)"})
    static void whatWasSeenWrittenAndKeptIsNotUndone() {
        Run.laid("r0,1,0,0;").due("hour(1,0)=1 seen(0,1)=1 keep()=1 write(99)=10 undo()=0 count(3)=1 count(5)=1 count(6)=10")
            .due("undo()=NO back()=0 rope(0,3)=1");
    }
}
