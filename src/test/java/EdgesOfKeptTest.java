import java.io.IOException;

/** Boundaries of what is kept and counted, promises 27 to 29, and of refusals by an object that is full of everything. */
public final class EdgesOfKeptTest {
    /** 200 letters without fault that lay another valley than the one that has been laid before them. */
    private static final String LONG_TEXT = "r1,1,0,1;m2;" + "c1,1;".repeat(37) + "m3;";

    public static void main(String[] args) throws IOException {
        Edges.runAll(EdgesOfKeptTest.class);
    }

    // ---- keeping, promise 27

    @Says({"KEPT are TURNS, KINDS, hours, costs: 2 at most.", "`int keep()`: KEPT: how many. FULL."})
    static void thirdThatIsKeptIsFull() {
        Run.laid("r3,1,0,9;").due("count(5)=0 keep()=1 count(5)=1 hour(1,0)=1 keep()=2 count(5)=2 hour(1,0)=1 keep()=FULL count(5)=2")
            .refuses("keep()=FULL").due("back()=1 rope(0,3)=10 hour(0,0)=0 hour(0,0)=0 keep()=2 keep()=FULL back()=1 back()=0 rope(0,3)=9");
    }

    @Says("KEPT: how many. FULL.")
    static void theSameCanBeKeptTwice() {
        Run.laid("r3,1,0,9;").due("keep()=1 keep()=2 keep()=FULL back()=1 rope(0,3)=9 back()=0 rope(0,3)=9 back()=NO");
    }

    @Says("`int keep()`: KEPT: how many. FULL.")
    static void keepingChangesNothingElse() {
        Run.laid("r3,1,2,9;c3,4;").due("hour(1,0)=3 grease(0)=2 seen(3,10)=1 keep()=1 rope(0,3)=10 rope(0,2)=1 spent(0)=3 spent(1)=1")
            .due("count(3)=1 count(4)=2 count(6)=14 undo()=1 rope(0,2)=2 undo()=0 rope(0,3)=9 count(5)=1");
    }

    // ---- back, promise 28

    @Says("As KEPT last (it is KEPT no more then): how many are left; nothing is UNDONE then. NO.")
    static void nothingIsKeptAtFirst() {
        Run.fresh().due("back()=NO").refuses("back()=NO");
        Run.fresh().due("hour(15,0)=4 grease(3)=3 keep()=1 back()=0 back()=NO").refuses("back()=NO");
        // A refused one leaves what can be undone.
        Run.laid("r3,1,0,9;").due("hour(1,0)=1 back()=NO count(4)=1 undo()=0 rope(0,3)=9").refuses("back()=NO");
    }

    @Says("As KEPT last (it is KEPT no more then): how many are left")
    static void whatWasKeptLastComesFirst() {
        Run.laid("r3,1,0,9;").due("hour(1,0)=1 keep()=1 hour(1,0)=1 keep()=2 hour(1,0)=1 back()=1 rope(0,3)=11 count(5)=1 spent(1)=2")
            .due("back()=0 rope(0,3)=10 count(5)=0 spent(1)=1 back()=NO rope(0,3)=10");
    }

    @Says("KEPT are TURNS, KINDS, hours, costs")
    static void turnsKindsHoursAndCostsComeBack() {
        Run.laid("r0,5,2,37;r1,1,3,0;r2,2,0,40;c3,4;").due("hour(1,6)=11 keep()=1 grease(0)=2 grease(1)=3 hour(2,5)=11 hour(2,5)=11")
            .due("rope(0,3)=28 rope(1,3)=4 rope(2,3)=34 spent(0)=33 spent(1)=3 back()=0 rope(0,3)=40 rope(1,3)=0 rope(2,3)=38")
            .due("rope(0,2)=2 rope(1,2)=3 rope(2,2)=0 spent(0)=11 spent(1)=1 hour(2,0)=3 rope(1,3)=0 hour(2,0)=3 rope(1,3)=1");
    }

    @Says("nothing is UNDONE then")
    static void nothingCanBeUndoneBehindBack() {
        Run.laid("r3,1,0,9;").due("8*hour(1,0)=1 keep()=1 hour(1,0)=1 count(4)=8 back()=0 count(4)=0 undo()=NO rope(0,3)=17 hour(0,1)=2")
            .due("count(4)=1 undo()=0 rope(0,3)=17 undo()=NO");
    }

    @Says({"As KEPT last", "NO: 99 have gone by."})
    static void hoursGoAgainBehindBack() {
        Run.laid("r3,1,0,9;").due("98*hour(0,0)=0 keep()=1 hour(0,0)=0 keep()=2 hour(0,0)=NO back()=1 hour(0,0)=NO back()=0 spent(1)=98")
            .due("hour(1,0)=1 spent(1)=99 hour(1,0)=NO");
    }

    @Says("KEPT are TURNS, KINDS, hours, costs")
    static void whatWasSeenAndWrittenDoesNotComeBack() {
        Run.laid("r3,1,0,9;").due("seen(3,9)=1 keep()=1 seen(3,9)=2 write(99)=10 back()=0 count(3)=2 count(6)=10 forget()=2");
    }

    // ---- counts, promise 29

    @Says("0 ROPES, 1 wants, 2 MEN, 3 SEEN, 4 that can be UNDONE, 5 KEPT, 6 letters of THE TEXT. BAD.")
    static void whatOfCountIs0To6() {
        Run.fresh().due("count(-1)=BAD count(0)=4 count(1)=3 count(2)=5 count(3)=0 count(4)=0 count(5)=0 count(6)=0 count(7)=BAD")
            .all("BAD", "count(MIN)", "count(MAX)", "count(-2)", "count(8)").refuses("count(-1)=BAD count(7)=BAD count(0)=4 count(6)=0");
    }

    @Says("How many: 0 ROPES, 1 wants, 2 MEN")
    static void leastAndMostOfWhatIsLaid() {
        Run.laid("r3,1,0,9;").due("count(0)=1 count(1)=0 count(2)=0");
        Run.laid("r0,1,0,0;r1,1,0,0;r2,1,0,0;r3,1,0,0;r4,1,0,0;w0,0;w1,1;w2,2;w3,3;w4,0;w5,1;w6,2;w7,3;m0;m1;m2;m3;m4;m5;")
            .due("count(0)=5 count(1)=8 count(2)=6 met()=17");
    }

    @Says("3 SEEN, 4 that can be UNDONE, 5 KEPT, 6 letters of THE TEXT")
    static void mostOfWhatIsCounted() {
        full().due("count(3)=8 count(4)=8 count(5)=2 count(6)=200");
    }

    // ---- refusals

    /** 99 hours, 8 that can be undone, 2 kept, 8 seen, 200 letters. */
    private static Run full() {
        return Run.laid("r3,1,0,9;r9,2,2,9;w3,1;w20,2;m0;m1;c3,4;").due("95*hour(0,0)=0 rope(1,3)=8 hour(1,2)=7 keep()=1 rope(1,3)=5")
            .due("hour(2,1)=7 grease(1)=2 keep()=2 rope(1,3)=7 grease(0)=0 grease(0)=1 grease(1)=1 hour(2,1)=7 hour(1,0)=3")
            .due("rope(0,3)=9 rope(1,3)=10 seen(3,9)=1 seen(3,9)=2 seen(4,9)=3 seen(5,9)=4 seen(0,9)=5 seen(1,9)=6 seen(2,9)=7")
            .due("seen(3,9)=8 slipped(0)=3 spent(1)=99 count(4)=8").text(LONG_TEXT);
    }

    @Says("Of several the first in this order; nothing changes then.")
    static void fullObjectRefusesAndNothingChanges() {
        full().refuses("write(31)=BAD write(127)=BAD write(114)=FULL hour(4,0)=BAD hour(1,1)=BAD hour(1,0)=NO hour(0,0)=NO")
            .refuses("grease(2)=BAD grease(-1)=BAD seen(24,0)=BAD seen(0,41)=BAD seen(0,9)=FULL keep()=FULL");
    }

    @Says({"BAD: a number is none that is told", "nothing changes then."})
    static void fullObjectRefusesQuestionsAndNothingChanges() {
        full().refuses("rope(2,0)=BAD rope(0,4)=BAD sky(24)=BAD light(-1)=BAD soon(0,4)=BAD plan(2)=BAD best(13,0)=BAD posts(2)=BAD")
            .refuses("brown(3)=BAD slipped(2)=BAD look(2)=BAD paces(0,9,0)=BAD slips(0,7,0,0,0)=BAD spent(2)=BAD")
            .refuses("evening(0,25,0)=BAD count(7)=BAD");
    }

    @Says({"What is told ahead of time", "nothing changes"})
    static void fullObjectAnswersAndNothingChanges() {
        // Rope 0 goes by 2 to 11 in an hour, rope 1 by 3 to 22 in four. By what was seen rope 1 can have slipped by 1.
        full().refuses("fault()=NONE rope(0,3)=9 sky(3)=9 light(9)=1 met()=0 noon()=0 soon(3,1)=1 plan(-1)=5 best(1,0)=0 posts(-1)=11")
            .refuses("brown(0)=0 brown(2)=NONE slipped(0)=3 slipped(1)=0 look(0)=6 paces(0,1,11)=2 slips(0,0,0,0,0)=1 spent(1)=99 count(4)=8");
    }

    @Says("NO: not as things stand.")
    static void emptyObjectRefusesAndNothingChanges() {
        Run.fresh().refuses("lay()=NO undo()=NO back()=NO fault()=NONE wipe()=0 forget()=0 rope(4,0)=BAD hour(16,0)=BAD grease(4)=BAD");
    }

    /** Every call, with numbers that are far from all that is told: an answer, never an exception. */
    @Says("BAD: a number is none that is told")
    static void farNumbersAreBadEverywhere() {
        for (String far : new String[] {"MIN", "MAX", "-2147483647", "2147483646", "-5", "70000", "-65536"}) {
            Run run = Run.fresh();
            run.all("BAD", "write(" + far + ")", "rope(" + far + ",0)", "rope(0," + far + ")", "sky(" + far + ")", "light(" + far + ")",
                "hour(" + far + ",0)", "hour(0," + far + ")", "grease(" + far + ")", "soon(" + far + ",0)", "soon(0," + far + ")",
                "plan(" + far + ")", "best(" + far + ",0)", "best(1," + far + ")", "posts(" + far + ")", "brown(" + far + ")",
                "seen(" + far + ",0)", "seen(0," + far + ")", "slipped(" + far + ")", "look(" + far + ")");
            run.all("BAD", "paces(" + far + ",1,0)", "paces(0," + far + ",0)", "paces(0,1," + far + ")", "slips(" + far + ",0,0,0,0)",
                "slips(0," + far + ",0,0,0)", "slips(0,0," + far + ",0,0)", "slips(0,0,0," + far + ",0)", "slips(0,0,0,0," + far + ")",
                "spent(" + far + ")", "evening(" + far + ",1,0)", "evening(0," + far + ",0)", "evening(0,1," + far + ")",
                "count(" + far + ")");
        }
    }
}
