import java.io.IOException;

/** Boundaries of what was seen, of slips, paces, chances, costs and evenings: promises 19 to 26. */
public final class EdgesOfSeenTest {
    public static void main(String[] args) throws IOException {
        Edges.runAll(EdgesOfSeenTest.class);
    }

    private static String repeated(String letter, int most, String rest) {
        StringBuilder text = new StringBuilder();
        for (int i = 0; i < most; i++) {
            text.append(letter).append(i).append(rest);
        }
        return text.toString();
    }

    // ---- what was seen, promises 19 and 20

    @Says({"`int seen(int y, int v)`: SEEN: how many. BAD; FULL.", "YARDS: such as there are"})
    static void seenIsOverYards0To23() {
        Run.fresh().due("seen(-1,0)=BAD seen(24,0)=BAD count(3)=0 seen(0,0)=1 seen(23,0)=2 seen(24,0)=BAD count(3)=2")
            .all("BAD", "seen(MIN,0)", "seen(MAX,0)", "seen(-2,5)", "seen(25,5)").refuses("seen(-1,0)=BAD seen(24,0)=BAD");
    }

    @Says("SEEN (8 at most) is how low THE SKY was over a YARD (0 to 40).")
    static void seenIs0To40() {
        Run.fresh().due("seen(0,-1)=BAD seen(0,41)=BAD count(3)=0 seen(0,0)=1 seen(0,40)=2 seen(0,41)=BAD count(3)=2")
            .all("BAD", "seen(0,MIN)", "seen(0,MAX)", "seen(24,41)", "seen(-1,-1)").refuses("seen(0,-1)=BAD seen(0,41)=BAD");
    }

    @Says("SEEN (8 at most)")
    static void ninthThatWasSeenIsFull() {
        Run.laid("r3,1,0,9;").due("seen(1,9)=1 seen(2,9)=2 seen(3,9)=3 seen(4,9)=4 seen(5,9)=5 seen(6,9)=6 seen(7,9)=7")
            .due("count(3)=7 seen(8,9)=8 count(3)=8 seen(9,9)=FULL count(3)=8 slipped(0)=1")
            .refuses("seen(9,10)=FULL seen(9,9)=FULL seen(1,9)=FULL seen(23,40)=FULL");
    }

    @Says({"SEEN (8 at most)", "Of several the first in this order; nothing changes then."})
    static void badSightForFullRowIsBad() {
        Run.laid("r3,1,0,9;").due("seen(1,9)=1 seen(2,9)=2 seen(3,9)=3 seen(4,9)=4 seen(5,9)=5 seen(6,9)=6 seen(7,9)=7 seen(8,9)=8")
            .due("seen(24,9)=BAD seen(-1,9)=BAD seen(1,41)=BAD seen(1,-1)=BAD seen(1,9)=FULL")
            .refuses("seen(24,9)=BAD seen(1,41)=BAD");
    }

    @Says("SEEN: how many.")
    static void theSameCanBeSeenAgain() {
        Run.laid("r3,1,0,9;").due("seen(3,9)=1 seen(3,9)=2 slipped(0)=1 seen(3,10)=3 slipped(0)=0 seen(3,9)=4 slipped(0)=0");
    }

    @Says("all that was SEEN would be so")
    static void eachOfTheEightIsLookedAt() {
        // Seven fit, and one of them at each place does not.
        for (int odd = 0; odd < 8; odd++) {
            Run run = Run.laid("r3,1,0,9;");
            for (int i = 0; i < 8; i++) {
                run.due("seen(" + i + "," + (i == odd ? 8 : 9) + ")=" + (i + 1));
            }
            run.due("slipped(0)=0 slipped(1)=NONE look(0)=NONE");
        }
    }

    @Says("`int forget()`: Nothing is SEEN: how many were.")
    static void forgettingTellsNoughtAndEight() {
        Run.laid("r3,1,0,9;").due("forget()=0 8*count(3)=0 seen(3,8)=1 slipped(0)=0 forget()=1 count(3)=0 slipped(0)=10 forget()=0");
        Run.laid("r3,1,0,9;").due("seen(1,9)=1 seen(2,9)=2 seen(3,9)=3 seen(4,9)=4 seen(5,9)=5 seen(6,9)=6 seen(7,9)=7 seen(8,9)=8")
            .due("seen(8,9)=FULL forget()=8 count(3)=0 seen(8,10)=1 slipped(0)=1 slipped(1)=1");
    }

    // ---- which rope has slipped, promise 21

    @Says("SLIPPED: how many (what = 0), the first (1; NONE). BAD.")
    static void whatOfSlippedIs0And1() {
        Run.laid("r3,1,0,9;").due("slipped(-1)=BAD slipped(0)=10 slipped(1)=0 slipped(2)=BAD")
            .all("BAD", "slipped(MIN)", "slipped(MAX)", "slipped(-2)", "slipped(10)")
            .refuses("slipped(-1)=BAD slipped(0)=10 slipped(1)=0 slipped(2)=BAD");
    }

    @Says("of ROPES and 0 to 9 TURNS those by which all that was SEEN would be so")
    static void slipsAreOf0To9Turns() {
        Run.laid("r3,1,0,9;").due("seen(3,8)=1 slipped(0)=0 slipped(1)=NONE").refuses("slipped(1)=NONE slipped(0)=0 look(0)=NONE");
        Run.laid("r3,1,0,9;").due("seen(3,9)=1 slipped(0)=1 slipped(1)=0");
        Run.laid("r3,1,0,9;").due("seen(3,18)=1 slipped(0)=1 slipped(1)=9");
        Run.laid("r3,1,0,9;").due("seen(3,19)=1 slipped(0)=0 slipped(1)=NONE");
        Run.laid("r3,1,0,0;").due("seen(3,0)=1 slipped(0)=1 slipped(1)=0");
    }

    @Says("(kept within 40; by 0 nothing has slipped: that counts for each ROPE)")
    static void slipsAreKeptWithin40() {
        Run.laid("r3,1,0,31;").due("seen(3,40)=1 slipped(0)=1 slipped(1)=9");
        Run.laid("r3,1,0,32;").due("seen(3,40)=1 slipped(0)=2 slipped(1)=8");
        Run.laid("r3,1,0,39;").due("seen(3,40)=1 slipped(0)=9 slipped(1)=1");
        Run.laid("r3,1,0,40;").due("seen(3,40)=1 slipped(0)=10 slipped(1)=0");
        Run.laid("r3,1,0,30;").due("seen(3,40)=1 slipped(0)=0 slipped(1)=NONE");
    }

    @Says("by 0 nothing has slipped: that counts for each ROPE")
    static void slipsBy0CountForEachRope() {
        Run.laid("r3,1,0,9;r4,1,0,12;r5,1,0,0;").due("seen(3,9)=1 seen(4,12)=2 seen(5,0)=3 slipped(0)=3 slipped(1)=0 look(1)=3");
        Run.laid("r0,1,0,0;r1,1,0,0;r2,1,0,0;r3,1,0,0;r4,1,0,0;").due("slipped(0)=50 slipped(1)=0")
            .due("seen(0,0)=1 seen(1,0)=2 seen(2,0)=3 seen(3,0)=4 seen(4,0)=5 slipped(0)=5 slipped(1)=0");
    }

    @Says("the first (by ROPE, then TURNS) as 10 times the ROPE and the TURNS; none.")
    static void firstSlipIsByRopeThenByTurns() {
        Run.laid("r0,1,0,0;r1,1,0,0;r2,1,0,0;r3,1,0,0;r4,1,0,0;").due("seen(4,9)=1 slipped(0)=1 slipped(1)=49");
        // Yard 5 is half of what either rope has let out more: by 8 and 9 of rope 0, by 8 and 9 of rope 1.
        Run.laid("r0,1,0,10;r10,1,0,10;").due("seen(5,14)=1 slipped(0)=4 slipped(1)=8 seen(0,10)=2 slipped(0)=2 slipped(1)=18");
        Run.laid("r10,1,0,10;r0,1,0,10;").due("seen(5,14)=1 slipped(0)=4 slipped(1)=8 seen(0,10)=2 slipped(0)=2 slipped(1)=8");
    }

    @Says("had that ROPE let out so many more than it has now")
    static void slipsAreFromWhatRopesHaveNow() {
        Run.laid("r3,5,0,9;").due("seen(3,15)=1 slipped(1)=6 hour(1,0)=1 slipped(1)=1 hour(1,0)=1 slipped(1)=NONE undo()=1 slipped(1)=1");
    }

    // ---- which yard to look at, promise 22

    @Says("LOOK: the YARD (what = 0), how many (1). NONE; BAD.")
    static void whatOfLookIs0And1() {
        Run.laid("r3,1,0,9;").due("look(-1)=BAD look(0)=0 look(1)=1 look(2)=BAD")
            .all("BAD", "look(MIN)", "look(MAX)", "look(-2)", "look(23)").refuses("look(-1)=BAD look(0)=0 look(1)=1 look(2)=BAD");
    }

    @Says("none (there are none)")
    static void nowhereToLookIfNothingFits() {
        Run.laid("r3,1,0,9;").due("seen(3,8)=1 look(0)=NONE look(1)=NONE look(2)=BAD look(-1)=BAD forget()=1 look(0)=0 look(1)=1")
            .due("seen(3,11)=1 look(0)=0 look(1)=1");
    }

    @Says("those that are alike there by THE SKY are fewest at the worst, of several the first")
    static void ofSeveralYardsToLookAtTheFirst() {
        // One rope: every yard tells all ten apart. At 40 no yard tells anything.
        Run.laid("r23,1,0,9;").due("look(0)=0 look(1)=1");
        Run.laid("r23,1,0,40;").due("look(0)=0 look(1)=10");
        Run.laid("r0,1,0,40;r1,1,0,40;r2,1,0,40;r3,1,0,40;r4,1,0,40;").due("slipped(0)=50 look(0)=0 look(1)=50");
    }

    @Says("of YARDS that at which those that are alike there by THE SKY are fewest at the worst")
    static void lastYardCanBeTheOneToLookAt() {
        // Rope 0 has not slipped, so that yards 0 to 22 tell nothing; at 23 rope 0 by 0 and rope 1 by 0 are alike.
        Run.laid("r22,1,0,0;r23,1,0,0;").due("seen(22,0)=1 slipped(0)=11 look(0)=23 look(1)=2");
        Run.laid("r1,1,0,0;r0,1,0,0;").due("seen(23,0)=1 slipped(0)=11 look(0)=0 look(1)=2");
    }

    @Says("fewest at the worst")
    static void yardsAreJudgedAtTheirWorst() {
        // Over a rope the ten slips of the other and its own by 0 are alike, 11; midway 2 of each rope are, 4.
        Run.laid("r0,1,0,10;r4,1,0,10;").due("look(0)=2 look(1)=4");
        // At 36 slips by 4 to 9 end alike, 6 of them, at each yard.
        Run.laid("r3,1,0,36;").due("look(0)=0 look(1)=6");
    }

    // ---- paces, promise 23

    @Says({"`int paces(int k, int n, int v)`: PACES, as bits. BAD.", "ROPES, wants, MEN, YARDS: such as there are"})
    static void pacesAreOfRopesSuchAsThereAre() {
        Run.laid("r3,1,0,9;").due("paces(-1,1,10)=BAD paces(0,1,10)=2 paces(1,1,10)=BAD paces(5,1,10)=BAD");
        Run.laid("r0,1,0,0;r1,1,0,0;r2,1,0,0;r3,1,0,0;r4,1,0,9;").due("paces(4,1,10)=2 paces(5,1,10)=BAD")
            .all("BAD", "paces(MIN,1,10)", "paces(MAX,1,10)").refuses("paces(5,1,10)=BAD paces(-1,1,10)=BAD paces(4,1,10)=2");
    }

    @Says("PACES of a ROPE over n (1 to 8) hours")
    static void pacesAreOver1To8Hours() {
        Run.laid("r3,1,0,0;").due("paces(0,0,0)=BAD paces(0,1,5)=32 paces(0,1,1)=2 paces(0,8,40)=32 paces(0,8,8)=2 paces(0,9,40)=BAD")
            .all("BAD", "paces(0,MIN,0)", "paces(0,MAX,0)", "paces(0,-1,0)").refuses("paces(0,0,0)=BAD paces(0,9,9)=BAD paces(0,8,8)=2");
    }

    @Says("it would have let out TURNS of v (0 to 40)")
    static void pacesAreForTurns0To40() {
        // In hour 1 a stuck rope goes by no pace.
        Run.laid("r3,1,3,0;").due("hour(0,0)=0 paces(0,1,-1)=BAD paces(0,1,0)=62 paces(0,1,1)=0");
        Run.laid("r3,1,0,39;").due("paces(0,1,40)=62 paces(0,1,41)=BAD paces(0,1,39)=0 paces(0,8,40)=62 paces(0,1,44)=BAD")
            .all("BAD", "paces(0,1,MIN)", "paces(0,1,MAX)").refuses("paces(0,1,41)=BAD paces(0,1,-1)=BAD paces(0,1,40)=62");
    }

    @Says("P of 1 to 5 (bit P)")
    static void pacesAre1To5WhateverTheRopesOwn() {
        for (int own = 1; own <= 5; own += 4) {
            Run run = Run.laid("r3," + own + ",0,10;").due("paces(0,1,10)=0 paces(0,1,16)=0");
            for (int pace = 1; pace <= 5; pace++) {
                run.due("paces(0,1," + (10 + pace) + ")=" + (1 << pace));
            }
        }
    }

    @Says({"wound down in n hours from now on by its KIND", "TURNS are kept within 0 and 40."})
    static void pacesAreKeptWithin40() {
        Run.laid("r3,1,0,35;").due("paces(0,1,40)=32 paces(0,1,39)=16");
        Run.laid("r3,1,0,36;").due("paces(0,1,40)=48");
        Run.laid("r3,1,1,35;").due("paces(0,1,40)=48 paces(0,1,36)=0 paces(0,1,37)=2");
        // Frayed: by 2 from 37 on to 39, which slips; by 3 to 40, by 5 to 42, kept at 40.
        Run.laid("r3,1,2,37;").due("paces(0,1,38)=6 paces(0,1,39)=0 paces(0,1,40)=56");
    }

    @Says({"(the number of hours going on)", "What is told ahead of time goes on beyond the 99th hour, too."})
    static void pacesGoOnBeyondThe99thHour() {
        // Hours 99 (odd) and 100 (even).
        Run.laid("r3,1,3,10;").due("99*hour(0,0)=0 paces(0,1,10)=62 paces(0,2,15)=32 paces(0,3,15)=32 paces(0,4,20)=32")
            .refuses("paces(0,2,15)=32 paces(0,9,15)=BAD");
    }

    // ---- chances, promise 24

    private static void slips(Run run, String call, int above, int below) {
        run.due("slips(" + call + ",0)=" + above + " slips(" + call + ",1)=" + below);
    }

    @Says({"SLIPS: above (part = 0), below (1). BAD.", "ROPES, wants, MEN, YARDS: such as there are"})
    static void chancesAreOfRopesSuchAsThereAre() {
        Run.laid("r3,1,0,9;").due("slips(-1,0,0,0,0)=BAD slips(0,0,0,0,0)=1 slips(1,0,0,0,0)=BAD slips(5,0,0,0,0)=BAD");
        Run.laid("r0,1,0,0;r1,1,0,0;r2,1,0,0;r3,1,0,0;r4,1,0,9;").due("slips(4,0,0,0,0)=1 slips(5,0,0,0,0)=BAD")
            .all("BAD", "slips(MIN,0,0,0,0)", "slips(MAX,0,0,0,0)", "slips(MIN,MIN,MIN,MIN,MIN)", "slips(MAX,MAX,MAX,MAX,MAX)")
            .refuses("slips(5,0,0,0,0)=BAD slips(-1,0,0,0,0)=BAD");
    }

    @Says("in each of n (0 to 6) hours it slips by 1")
    static void chancesAreOf0To6Hours() {
        Run run = Run.laid("r3,1,0,15;").due("slips(0,-1,5,1,0)=BAD slips(0,7,5,1,0)=BAD slips(0,MIN,5,1,0)=BAD slips(0,MAX,5,1,1)=BAD");
        slips(run, "0,0,5,1", 1, 1);
        slips(run, "0,0,5,0", 0, 1);
        // 15 is noon behind 6 slips alone: 1 of 64.
        slips(run, "0,5,5,0", 0, 1);
        slips(run, "0,6,5,0", 1, 64);
        slips(run, "0,6,5,1", 63, 64);
        run.refuses("slips(0,-1,5,1,0)=BAD slips(0,7,5,1,0)=BAD slips(0,6,5,1,0)=63");
    }

    @Says("by the chance of x (0 to 10) of ten")
    static void chancesAre0To10OfTen() {
        Run run = Run.laid("r3,1,0,25;").due("slips(0,6,-1,1,0)=BAD slips(0,6,11,1,0)=BAD slips(0,6,MIN,1,0)=BAD slips(0,6,MAX,1,1)=BAD");
        slips(run, "0,6,0,2", 1, 1);
        slips(run, "0,6,0,1", 0, 1);
        slips(run, "0,6,10,1", 1, 1);
        slips(run, "0,6,10,2", 0, 1);
        slips(run, "0,6,1,1", 1, 1000000);
        slips(run, "0,6,1,2", 999999, 1000000);
        slips(run, "0,6,9,1", 531441, 1000000);
        slips(run, "0,6,9,2", 468559, 1000000);
        run.refuses("slips(0,6,-1,1,0)=BAD slips(0,6,11,1,0)=BAD");
    }

    @Says("how likely THE SKY under it is of LIGHT u then")
    static void chancesAreOfLights0To3() {
        Run run = Run.laid("r3,1,0,0;r9,1,0,40;").due("slips(0,1,5,-1,0)=BAD slips(0,1,5,4,0)=BAD slips(0,1,5,MIN,0)=BAD slips(0,1,5,MAX,1)=BAD");
        slips(run, "0,1,5,0", 1, 1);
        slips(run, "0,1,5,3", 0, 1);
        slips(run, "1,6,5,3", 1, 1);
        slips(run, "1,6,5,0", 0, 1);
        run.refuses("slips(0,1,5,-1,0)=BAD slips(0,1,5,4,0)=BAD");
    }

    @Says("SLIPS: above (part = 0), below (1). BAD.")
    static void partsOfChancesAre0And1() {
        Run.laid("r3,1,0,10;").due("slips(0,1,5,0,-1)=BAD slips(0,1,5,0,0)=1 slips(0,1,5,0,1)=2 slips(0,1,5,0,2)=BAD")
            .all("BAD", "slips(0,1,5,0,MIN)", "slips(0,1,5,0,MAX)").refuses("slips(0,1,5,0,-1)=BAD slips(0,1,5,0,2)=BAD slips(0,1,5,0,1)=2");
    }

    @Says("in lowest terms")
    static void chancesAreInLowestTerms() {
        Run run = Run.laid("r3,1,0,10;");
        slips(run, "0,1,3,0", 3, 10);
        slips(run, "0,1,4,0", 2, 5);
        slips(run, "0,1,5,0", 1, 2);
        slips(run, "0,2,2,1", 16, 25);
        slips(run, "0,6,5,1", 1, 64);
        slips(run, "0,3,10,1", 0, 1);
        slips(run, "0,3,10,0", 1, 1);
    }

    @Says("it slips by 1 (0 at least)")
    static void ropesSlipTo0AtLeast() {
        slips(Run.laid("r3,1,0,0;"), "0,6,10,0", 1, 1);
        slips(Run.laid("r3,1,0,1;"), "0,6,10,0", 1, 1);
        slips(Run.laid("r3,1,0,6;"), "0,6,10,0", 1, 1);
        slips(Run.laid("r3,1,0,5;"), "0,6,9,3", 0, 1);
    }

    @Says("how likely THE SKY under it is of LIGHT u then")
    static void chancesAtTheEdgesOfLights() {
        int[] first = {10, 20, 30};
        for (int t : first) {
            int light = t / 10;
            slips(Run.laid("r3,1,0," + t + ";"), "0,1,4," + light, 3, 5);
            slips(Run.laid("r3,1,0," + t + ";"), "0,1,4," + (light - 1), 2, 5);
            slips(Run.laid("r3,1,0," + (t - 1) + ";"), "0,1,4," + (light - 1), 1, 1);
            slips(Run.laid("r3,1,0," + (t + 1) + ";"), "0,1,4," + light, 1, 1);
            slips(Run.laid("r3,1,0," + (t + 1) + ";"), "0,2,5," + (light - 1), 1, 4);
        }
    }

    @Says({"SLIPS of a ROPE that has as many TURNS as now", "What is told ahead of time goes on beyond the 99th hour, too."})
    static void chancesAreTheSameForEachKindAndHour() {
        for (int kind = 0; kind <= 3; kind++) {
            Run run = Run.laid("r3,5," + kind + ",10;");
            slips(run, "0,1,3,0", 3, 10);
            run.due("99*hour(0,0)=0");
            slips(run, "0,1,3,0", 3, 10);
            run.refuses("slips(0,1,3,0,0)=3");
        }
    }

    // ---- costs and hours, promise 25

    @Says("HOUR BY HOUR: the cost (what = 0), how many (1). BAD.")
    static void whatOfSpentIs0And1() {
        Run.laid("r3,1,0,9;c7,8;").due("spent(-1)=BAD spent(0)=0 spent(1)=0 spent(2)=BAD hour(1,0)=7 spent(0)=7 spent(1)=1")
            .all("BAD", "spent(MIN)", "spent(MAX)", "spent(-2)", "spent(3)").refuses("spent(-1)=BAD spent(0)=7 spent(1)=1 spent(2)=BAD");
    }

    @Says("HOUR BY HOUR: what all hours have cost; how many have gone by.")
    static void refusedHoursCostNothing() {
        Run.laid("r3,1,0,9;c7,8;").due("99*hour(1,0)=7 spent(0)=693 spent(1)=99 hour(1,0)=NO hour(0,1)=NO hour(1,1)=BAD")
            .due("spent(0)=693 spent(1)=99 grease(0)=0 spent(0)=693 undo()=7 undo()=6 spent(0)=686 spent(1)=98 hour(0,1)=8 spent(0)=694");
    }

    // ---- evenings, promise 26

    @Says("AN EVENING by z (0 to 9999)")
    static void eveningsAre0To9999() {
        // DRAW of z = 0 is 1, of z = 9999 it is 51303, of z = 9998 8482: down, down, up.
        Run.laid("r3,1,0,29;").due("evening(-1,1,1)=BAD evening(0,1,1)=24 evening(9999,1,1)=24 evening(10000,1,1)=BAD")
            .all("BAD", "evening(MIN,1,0)", "evening(MAX,1,0)", "evening(-2,1,1)", "evening(10001,1,0)")
            .refuses("evening(-1,1,1)=BAD evening(10000,1,0)=BAD");
        Run.laid("r3,1,0,30;").due("evening(9998,1,1)=0 evening(9999,1,1)=24");
    }

    @Says("for n (1 to 24) hours from now (nothing changes by it)")
    static void eveningsAreOf1To24Hours() {
        // Of z = 9999: 7 turns more behind 24 hours, 6 behind 23.
        Run.laid("r3,1,0,23;").due("evening(9999,0,1)=BAD evening(9999,23,1)=0 evening(9999,24,1)=24 evening(9999,25,1)=BAD")
            .all("BAD", "evening(0,MIN,0)", "evening(0,MAX,0)", "evening(0,-1,1)", "evening(0,99,1)")
            .refuses("evening(9999,0,1)=BAD evening(9999,25,1)=BAD evening(9999,24,1)=24 evening(9999,1,0)=0");
    }

    @Says("AN EVENING: MET (what = 0), NIGHT (1). BAD.")
    static void whatOfEveningIs0And1() {
        Run.laid("r3,1,0,29;w3,3;").due("evening(0,1,-1)=BAD evening(0,1,0)=1 evening(0,1,1)=24 evening(0,1,2)=BAD")
            .all("BAD", "evening(0,1,MIN)", "evening(0,1,MAX)", "evening(-1,0,2)").refuses("evening(0,1,-1)=BAD evening(0,1,2)=BAD");
    }

    @Says("how many wants are MET then; how many YARDS are NIGHT.")
    static void noneToAllWantsAreMetInEvenings() {
        Run.laid("r3,1,0,29;").due("evening(0,1,0)=0");
        Run.laid("r3,1,0,29;w3,3;w3,3;w3,3;w3,3;w3,3;w3,3;w3,3;w3,3;").due("met()=0 evening(0,1,0)=8");
        Run.laid("r3,1,0,29;w3,2;w3,2;w3,2;w3,2;w3,2;w3,2;w3,2;w3,3;").due("met()=127 evening(0,1,0)=1");
    }

    @Says("(DRAW modulo how many sets of ROPES there are, the empty one, too)")
    static void drawsAreModuloTheSetsThereAre() {
        // 22803 of z = 1: rope 0; ropes 0 and 1; 0 and 1; 0 and 1 down, 3 up; of five 0, 1 and 4 down, 3 up.
        int[] night = {24, 24, 2, 2, 22};
        for (int ropes = 1; ropes <= 5; ropes++) {
            Run.laid(repeated("r", ropes, ",1,0,29;")).due("evening(1,1,1)=" + night[ropes - 1]);
        }
    }

    @Says("the empty one, too")
    static void noRopeIsWoundByDrawsOfTheEmptySet() {
        // 3008 of z = 10: the empty set is wound down, of five ropes all but rope 0 are hauled up.
        Run.laid(repeated("r", 5, ",1,0,30;")).due("evening(10,1,1)=1");
        // 56728 of z = 5: one rope is neither wound nor hauled; a frayed one slips.
        Run.laid("r3,1,0,30;").due("evening(5,1,1)=24");
        Run.laid("r3,1,2,30;").due("evening(5,1,1)=0");
    }

    @Says("of the others those of the set (DRAW by 32, cut, modulo as many) hauled up")
    static void onlyTheOthersAreHauledUp() {
        // 58977 of z = 7: rope 0 is in both sets of one rope, and wound down alone.
        Run.laid("r3,1,0,29;").due("evening(7,1,1)=24");
        // 44670 of z = 3: even, and by 32 it is 1395: one rope is hauled up.
        Run.laid("r3,1,0,30;").due("evening(3,1,1)=0");
        // Of five ropes it is 30 and 19: 1 to 4 go down, 0 alone goes up, though 1 and 4 are in both.
        Run.laid(repeated("r", 5, ",1,0,29;") + "w0,2;w1,3;w4,3;w3,2;").due("evening(3,1,1)=23 evening(3,1,0)=3");
    }

    @Says({"(the hour's number, as hours go on from those gone by)", "What is told ahead of time goes on beyond the 99th hour, too."})
    static void eveningsGoOnBeyondThe99thHour() {
        // Of z = 0 from hour 99 on: 14 turns more behind 24 hours, 13 behind 23.
        Run.laid("r3,1,0,16;").due("99*hour(0,0)=0 evening(0,23,1)=0 evening(0,24,1)=24").refuses("evening(0,24,1)=24 evening(0,25,1)=BAD");
        // Wound down in hours 99, which is odd, and 100.
        Run.laid("r3,5,3,25;").due("99*hour(0,0)=0 evening(0,1,1)=0 evening(0,2,1)=24");
    }

    @Says("(nothing changes by it)")
    static void eveningsChangeNothing() {
        // Hour 2 of z = 0, DRAW 10299: both go down, rope 0 from 23 to 28, rope 1, greased, from 10 to 12.
        Run.laid("r3,5,2,25;r9,1,3,9;w3,2;w9,1;m1;c9,9;").due("hour(1,2)=18 keep()=1 grease(1)=3 hour(2,1)=18 seen(3,23)=1")
            .refuses("evening(0,1,0)=2 evening(0,1,1)=0 evening(10000,1,0)=BAD evening(0,25,0)=BAD evening(0,24,2)=BAD");
    }
}
