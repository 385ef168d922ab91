import java.io.IOException;

/** Boundaries of what is told of light, of the plan, the rope to grease and the posts: promises 12 to 18. */
public final class EdgesOfLightTest {
    private static final String FIVE = "r0,1,0,0;r1,1,0,0;r2,1,0,0;r3,1,0,0;r4,1,0,0;";

    public static void main(String[] args) throws IOException {
        Edges.runAll(EdgesOfLightTest.class);
    }

    // ---- wants that are met, promise 12

    @Says("MET are wants whose YARD has that LIGHT.")
    static void wantsAreMetByTheirLightAlone() {
        int[] turns = {0, 9, 10, 19, 20, 29, 30, 40};
        for (int i = 0; i < turns.length; i++) {
            Run.laid("r3,1,0," + turns[i] + ";w3,0;w3,1;w3,2;w3,3;").due("met()=" + (1 << i / 2));
        }
    }

    @Says("`int met()`: MET, as bits.")
    static void bitsOfMetWantsAre0To7() {
        Run.laid("r3,1,0,0;").due("met()=0").refuses("met()=0");
        Run.laid("r3,1,0,0;w3,0;").due("met()=1");
        Run.laid("r3,1,0,0;w3,0;w3,0;w3,0;w3,0;w3,0;w3,0;w3,0;w3,0;").due("met()=255").refuses("met()=255");
        Run.laid("r3,1,0,0;w3,1;w3,1;w3,1;w3,1;w3,1;w3,1;w3,1;w3,0;").due("met()=128");
        Run.laid("r3,1,0,0;w3,0;w3,1;w3,1;w3,1;w3,1;w3,1;w3,1;w3,1;").due("met()=1 10*hour(1,0)=1 met()=254");
    }

    @Says("MET are wants whose YARD has that LIGHT.")
    static void wantsOfTheOutermostYards() {
        Run.laid("r0,1,0,10;r23,1,0,29;w0,1;w23,2;w0,2;w23,3;").due("met()=3 hour(2,0)=1 met()=9 hour(0,1)=2 met()=8");
    }

    // ---- noon left, promise 13

    @Says({"NOON LEFT: the first YARD of NOON; none.", "`int noon()`: NOON LEFT. NONE."})
    static void noonIsLeftFromYard0To23() {
        Run.laid("r0,1,0,9;r1,1,0,10;").due("noon()=0 hour(1,0)=1 noon()=NONE").refuses("noon()=NONE");
        Run.laid("r22,1,0,10;r23,1,0,9;").due("noon()=23 hour(2,0)=1 noon()=NONE");
        Run.laid("r5,1,0,10;r6,1,0,9;r7,1,0,10;r9,1,0,9;").due("noon()=6 hour(2,0)=1 noon()=8 hour(8,0)=1 noon()=NONE");
    }

    @Says("NOON LEFT: the first YARD of NOON; none.")
    static void ofSeveralYardsOfNoonTheFirst() {
        Run.laid("r3,1,0,0;").due("noon()=0").refuses("noon()=0");
        Run.laid("r3,1,0,40;r13,1,0,0;").due("sky(10)=12 sky(11)=8 noon()=11");
        Run.laid("r3,1,0,9;r4,1,0,10;r5,1,0,9;").due("noon()=0");
    }

    // ---- how soon, promise 14

    @Says({"`int soon(int y, int u)`: SOON. NONE; BAD.", "YARDS: such as there are"})
    static void soonIsForYards0To23() {
        Run.laid("r0,1,0,5;r23,1,0,7;").due("soon(-1,1)=BAD soon(0,1)=5 soon(23,1)=3 soon(24,1)=BAD")
            .all("BAD", "soon(MIN,1)", "soon(MAX,1)", "soon(25,0)", "soon(-1,0)").refuses("soon(24,1)=BAD soon(-1,1)=BAD");
    }

    @Says("`int soon(int y, int u)`: SOON. NONE; BAD.")
    static void soonIsForLights0To3() {
        Run.laid("r0,5,0,5;").due("soon(0,-1)=BAD soon(0,0)=0 soon(0,3)=5 soon(0,4)=BAD")
            .all("BAD", "soon(0,MIN)", "soon(0,MAX)", "soon(24,4)", "soon(-1,-1)").refuses("soon(0,4)=BAD soon(0,-1)=BAD");
    }

    @Says("behind how many hours (0 to 24) of winding down all ROPES its LIGHT is that or darker first; none.")
    static void soonIsBehind24HoursAtMost() {
        Run.laid("r3,1,0,6;").due("soon(3,3)=24 soon(0,3)=24 soon(23,3)=24");
        Run.laid("r3,1,0,5;").due("soon(3,3)=NONE soon(3,2)=15").refuses("soon(3,3)=NONE soon(3,2)=15");
        Run.laid("r3,1,0,7;").due("soon(3,3)=23");
    }

    @Says("its LIGHT is that or darker first; none.")
    static void soonIsNowIfItIsSoDarkOrDarker() {
        Run.laid("r3,1,0,0;").due("soon(3,0)=0 soon(3,1)=10");
        Run.laid("r3,1,0,30;").due("soon(3,0)=0 soon(3,1)=0 soon(3,2)=0 soon(3,3)=0");
        Run.laid("r3,1,0,29;").due("soon(3,0)=0 soon(3,2)=0 soon(3,3)=1");
        Run.laid("r3,1,0,20;").due("soon(3,1)=0 soon(3,2)=0 soon(3,3)=10 hour(0,1)=2 soon(3,2)=1");
    }

    @Says({"SOON for a YARD and a LIGHT", "then it slips: 1 less"})
    static void frayedRopesMayNeverComeSoFar() {
        // By 1 an hour: 11, 12 that slips to 11, and so on.
        Run.laid("r3,1,2,10;").due("soon(3,1)=0 soon(3,2)=NONE");
        Run.laid("r3,1,2,8;").due("soon(3,1)=NONE hour(0,0)=0 soon(3,0)=0");
    }

    @Says("What is told ahead of time goes on beyond the 99th hour, too.")
    static void soonGoesOnBeyondThe99thHour() {
        // Hour 99 is odd: a stuck rope is moved in hour 100 first, then 102, 104.
        Run.laid("r3,5,3,15;").due("99*hour(0,0)=0 soon(3,1)=0 soon(3,2)=2 soon(3,3)=6").refuses("soon(3,3)=6 soon(4,4)=BAD");
        Run.laid("r3,1,0,6;").due("98*hour(0,0)=0 soon(3,3)=24 hour(0,0)=0 soon(3,3)=24");
    }

    @Says("Of several the first in this order; nothing changes then.")
    static void badComesBeforeNone() {
        Run.laid("r3,1,0,0;w3,3;w3,0;").due("soon(3,3)=NONE soon(24,3)=BAD soon(3,4)=BAD plan(-1)=NONE plan(0)=NONE plan(1)=BAD")
            .due("plan(-2)=BAD posts(-1)=NONE posts(0)=NONE posts(1)=BAD posts(-2)=BAD brown(2)=NONE brown(3)=BAD brown(-1)=BAD")
            .due("seen(3,40)=1 slipped(1)=NONE slipped(2)=BAD slipped(-1)=BAD look(0)=NONE look(1)=NONE look(2)=BAD look(-1)=BAD");
    }

    // ---- the plan, promise 15

    @Says({"PLAN: how many (k = -1), for how many hours a ROPE. NONE; BAD.", "ROPES, wants, MEN, YARDS: such as there are"})
    static void planIsOfRopesSuchAsThereAre() {
        Run.laid("r3,1,0,0;").due("plan(-2)=BAD plan(-1)=0 plan(0)=0 plan(1)=BAD plan(4)=BAD plan(5)=BAD");
        Run.laid(FIVE).due("plan(-2)=BAD plan(-1)=0 plan(4)=0 plan(5)=BAD").all("BAD", "plan(MIN)", "plan(MAX)", "plan(6)")
            .refuses("plan(-1)=0 plan(4)=0 plan(5)=BAD plan(-2)=BAD plan(MIN)=BAD plan(MAX)=BAD");
    }

    @Says("of all ways to wind down each ROPE in the next 4 hours, for the first n of these (0 to 4 for each ROPE;")
    static void planWindsRopesFor4HoursAtMost() {
        Run.laid("r3,5,0,10;w3,3;").due("plan(-1)=4 plan(0)=4").refuses("plan(-1)=4");
        Run.laid("r3,5,0,9;w3,3;").due("plan(-1)=NONE plan(0)=NONE").refuses("plan(-1)=NONE plan(0)=NONE plan(1)=BAD");
        Run.laid("r3,1,0,6;w3,1;").due("plan(-1)=4");
        Run.laid("r3,1,0,5;w3,1;").due("plan(-1)=NONE");
    }

    @Says("(0 to 4 for each ROPE;")
    static void planOfFiveRopesIs20AtMost() {
        Run.laid("r0,5,0,0;r1,5,0,0;r2,5,0,0;r3,5,0,0;r4,5,0,0;w0,2;w1,2;w2,2;w3,2;w4,2;")
            .due("plan(-1)=20 plan(0)=4 plan(1)=4 plan(2)=4 plan(3)=4 plan(4)=4 plan(5)=BAD");
        Run.laid("r0,5,0,0;r1,5,0,0;r2,5,0,0;r3,5,0,0;r4,4,0,0;w0,2;w1,2;w2,2;w3,2;w4,2;")
            .due("plan(-1)=NONE plan(0)=NONE plan(4)=NONE plan(5)=BAD");
    }

    @Says("by which all wants are MET behind them")
    static void planWithoutWantsOrWithWantsMetIsNought() {
        Run.laid("r3,5,0,0;r9,5,2,3;").due("plan(-1)=0 plan(0)=0 plan(1)=0");
        Run.laid("r3,5,0,0;w3,0;w0,0;w23,0;").due("plan(-1)=0 plan(0)=0");
    }

    @Says("by which all wants are MET behind them")
    static void planNeedsEachOfAllWants() {
        Run.laid("r3,5,0,5;w3,1;w3,1;w3,1;w3,1;w3,1;w3,1;w3,1;w3,1;").due("plan(-1)=1");
        Run.laid("r3,5,0,5;w3,1;w3,1;w3,1;w3,1;w3,1;w3,1;w3,1;w3,2;").due("plan(-1)=NONE");
        Run.laid("r3,5,0,5;w3,2;w3,1;w3,1;w3,1;w3,1;w3,1;w3,1;w3,1;").due("plan(-1)=NONE");
        Run.laid("r3,5,0,10;w3,0;").due("plan(-1)=NONE");
    }

    @Says("(0 to 4 for each ROPE; neither wound nor hauled in the others), by which all wants are MET behind them")
    static void frayedRopesSlipInTheOthersOfThe4Hours() {
        // 30 slips to 29 if it is left alone; wound for an hour it is 31 and stays so.
        Run.laid("r3,1,2,30;w3,3;").due("met()=1 plan(-1)=1 plan(0)=1");
        // 27 and 3 are 30, which slips to 29 at once; 29 and 3 are 32.
        Run.laid("r3,3,2,27;w3,3;").due("plan(-1)=2");
        // 21 slips to 20, and 20 stays: what is brown stays brown.
        Run.laid("r3,3,2,21;w3,2;").due("plan(-1)=0");
    }

    @Says({"for the first n of these", "STUCK: by P, in hours of even number alone."})
    static void stuckRopesAreWoundInTheFirstHours() {
        // From hour 0 on two moves need hours 0, 1, 2; from hour 1 on they need hours 1 to 4.
        Run.laid("r3,5,3,0;w3,1;").due("plan(-1)=3 plan(0)=3 hour(0,0)=0 plan(-1)=4 hour(0,0)=0 plan(-1)=3");
        Run.laid("r3,5,3,5;w3,1;").due("plan(-1)=1 hour(0,0)=0 plan(-1)=2");
        Run.laid("r3,4,3,1;w3,1;").due("plan(-1)=NONE");
    }

    @Says("What is told ahead of time goes on beyond the 99th hour, too.")
    static void planGoesOnBeyondThe99thHour() {
        // Hours 99 to 102: a stuck rope goes in 100 and 102.
        Run.laid("r3,5,3,0;w3,1;").due("99*hour(0,0)=0 plan(-1)=4 plan(0)=4").refuses("plan(-1)=4 plan(0)=4 plan(1)=BAD");
        Run.laid("r3,5,0,0;w3,2;").due("99*hour(0,0)=0 plan(-1)=4");
    }

    @Says("that of fewest ROPE hours, of several the first (by ROPE 0, the least, then 1, ..)")
    static void ofSeveralPlansTheFirst() {
        // Yard 1 lies midway: an hour of either rope is enough, so rope 0 has none of it.
        Run.laid("r0,5,0,8;r2,5,0,8;w1,1;").due("plan(-1)=1 plan(0)=0 plan(1)=1");
        Run.laid("r2,5,0,8;r0,5,0,8;w1,1;").due("plan(-1)=1 plan(0)=0 plan(1)=1");
        // Two hours of either rope or one of each are enough: 0 and 2 come before 1 and 1, and 2 and 0.
        Run.laid("r0,1,0,9;r2,1,0,9;w1,1;").due("plan(-1)=2 plan(0)=0 plan(1)=2");
        Run.laid("r0,1,0,9;r2,1,0,9;r6,1,0,9;r8,1,0,9;w1,1;w7,1;").due("plan(-1)=4 plan(0)=0 plan(1)=2 plan(2)=0 plan(3)=2");
    }

    @Says("that of fewest ROPE hours, of several the first (by ROPE 0, the least, then 1, ..)")
    static void fewerHoursComeBeforeTheFirstPlan() {
        // Rope 1 alone would need 4 hours and come first; rope 0 needs 1.
        Run.laid("r0,5,0,8;r2,1,0,8;w1,1;").due("plan(-1)=1 plan(0)=1 plan(1)=0");
        Run.laid("r0,1,0,8;r2,5,0,8;w1,1;").due("plan(-1)=1 plan(0)=0 plan(1)=1");
        // Ropes 0 and 2, the outer ones, would need 2 hours each; rope 1 between them serves both wants by 2.
        Run.laid("r0,1,0,9;r2,1,0,9;r4,1,0,9;w1,1;w3,1;").due("plan(-1)=2 plan(0)=0 plan(1)=2 plan(2)=0");
        Run.laid("r2,1,0,9;r0,1,0,9;r4,1,0,9;w1,1;w3,1;").due("plan(-1)=2 plan(0)=2 plan(1)=0 plan(2)=0");
    }

    // ---- the rope to grease, promise 16

    @Says({"GREASE for n (1 to 12) hours", "GREASE: the ROPE (what = 0), how many (1). BAD."})
    static void greaseIsFor1To12Hours() {
        // Greased, it goes by 2: 28 is night behind an hour, 27 is not; 6 is night behind 12 hours, 5 is not.
        Run.laid("r3,1,0,28;").due("best(0,0)=BAD best(0,1)=BAD best(1,0)=0 best(1,1)=24");
        Run.laid("r3,1,0,27;").due("best(1,1)=0 best(2,1)=24");
        Run.laid("r3,1,0,6;").due("best(11,1)=0 best(12,0)=0 best(12,1)=24 best(13,0)=BAD best(13,1)=BAD");
        Run.laid("r3,1,0,5;").due("best(12,1)=0").all("BAD", "best(MIN,0)", "best(MAX,0)", "best(-1,0)", "best(24,1)")
            .refuses("best(0,0)=BAD best(13,1)=BAD best(12,1)=0");
    }

    @Says("GREASE: the ROPE (what = 0), how many (1). BAD.")
    static void whatOfGreaseIs0And1() {
        Run.laid("r3,1,0,28;").due("best(1,-1)=BAD best(1,0)=0 best(1,1)=24 best(1,2)=BAD")
            .all("BAD", "best(1,MIN)", "best(1,MAX)", "best(0,2)", "best(13,-1)").refuses("best(1,2)=BAD best(1,-1)=BAD best(1,1)=24");
    }

    @Says("most YARDS are NIGHT behind n hours of winding down all, of several the first; how many.")
    static void ofSeveralRopesToGreaseTheFirst() {
        Run.laid("r0,1,0,28;r23,1,0,28;").due("best(1,0)=0 best(1,1)=1");
        Run.laid("r23,1,0,28;r0,1,0,28;").due("best(1,0)=0 best(1,1)=1");
        Run.laid("r0,1,0,28;r22,1,0,28;").due("best(1,0)=1 best(1,1)=2");
        // By none of them a yard is night: rope 0, and none.
        Run.laid(FIVE).due("best(1,0)=0 best(1,1)=0");
        // All are night by whichever it is.
        Run.laid("r0,1,0,40;r22,1,0,40;").due("best(1,0)=0 best(1,1)=24 best(12,0)=0");
    }

    @Says("the ROPE (GREASED or not) by which, were it greased now")
    static void greasedRopesAreGreasedToo() {
        // Greasing rope 0 anew makes nothing of rope 1, but it is the first, and as good.
        Run.laid("r0,1,1,28;r1,1,0,20;").due("best(1,0)=0 best(1,1)=1");
        Run.laid("r4,5,1,24;").due("best(1,0)=0 best(1,1)=24").refuses("best(1,0)=0 best(1,1)=24");
    }

    @Says("the ROPE (GREASED or not) by which, were it greased now")
    static void lastOfFiveRopesCanBeTheOneToGrease() {
        Run.laid("r0,1,0,0;r1,1,0,0;r2,1,0,0;r3,1,0,0;r4,1,0,28;").due("best(1,0)=4 best(1,1)=20");
        Run.laid("r4,1,0,0;r3,1,0,0;r2,1,0,0;r1,1,0,0;r0,1,0,28;").due("best(1,0)=4 best(1,1)=1");
    }

    @Says("What is told ahead of time goes on beyond the 99th hour, too.")
    static void greaseGoesOnBeyondThe99thHour() {
        // Hour 99: rope 0 stays at 25 if rope 1 is greased. Hour 100: it goes to 30 then, as does rope 1: all are night.
        Run.laid("r0,5,3,25;r23,1,0,26;").due("99*hour(0,0)=0 best(1,0)=0 best(1,1)=6 best(2,0)=1 best(2,1)=24")
            .refuses("best(2,0)=1 best(13,0)=BAD");
    }

    // ---- the posts, promise 17

    @Says({"POSTS: how many (k = -1), the MAN of a ROPE. NONE; BAD.", "ROPES, wants, MEN, YARDS: such as there are"})
    static void postsAreOfRopesSuchAsThereAre() {
        Run.laid("r3,1,0,0;m3;m3;").due("posts(-2)=BAD posts(-1)=0 posts(0)=0 posts(1)=BAD posts(5)=BAD");
        Run.laid(FIVE + "m0;m1;m2;m3;m4;").due("posts(-2)=BAD posts(-1)=0 posts(4)=4 posts(5)=BAD")
            .all("BAD", "posts(MIN)", "posts(MAX)", "posts(6)").refuses("posts(-1)=0 posts(4)=4 posts(5)=BAD posts(-2)=BAD posts(MIN)=BAD");
    }

    @Says("none (fewer MEN than ROPES)")
    static void asManyMenAsRopesAreEnough() {
        Run.laid("r3,1,0,0;").due("posts(-1)=NONE posts(0)=NONE posts(1)=BAD").refuses("posts(-1)=NONE posts(0)=NONE");
        Run.laid("r3,1,0,0;m9;").due("posts(-1)=6 posts(0)=0");
        Run.laid("r3,1,0,0;r9,1,0,0;m9;").due("posts(-1)=NONE posts(0)=NONE posts(1)=NONE posts(2)=BAD");
        Run.laid("r3,1,0,0;r9,1,0,0;m9;m9;").due("posts(-1)=6 posts(0)=0 posts(1)=1");
        Run.laid(FIVE + "m9;m9;m9;m9;").due("posts(-1)=NONE posts(4)=NONE");
        Run.laid(FIVE + "m9;m9;m9;m9;m9;").due("posts(-1)=35 posts(0)=0 posts(4)=4");
    }

    @Says({"none (fewer MEN than ROPES)", "hour 0, nothing SEEN, UNDONE, KEPT"})
    static void postsAndPlanAreOfTheValleyThatIsLaidNow() {
        Run.laid("r3,5,0,5;m3;w3,1;").due("posts(-1)=0 posts(0)=0 plan(-1)=1 plan(0)=1").text("r3,5,0,0;m9;m8;w3,1;")
            .due("lay()=1 posts(-1)=5 posts(0)=1 plan(-1)=2 plan(0)=2").text("r3,5,0,0;r4,1,0,0;m9;w3,3;")
            .due("lay()=2 posts(-1)=NONE posts(0)=NONE plan(-1)=NONE plan(1)=NONE");
    }

    @Says("a MAN for each ROPE, none for two")
    static void noManIsForTwoRopes() {
        // Man 0 is near to both; one of them has to be left to man 1.
        Run.laid("r10,1,0,0;r12,1,0,0;m11;m0;").due("posts(-1)=11 posts(0)=1 posts(1)=0");
        Run.laid("r12,1,0,0;r10,1,0,0;m11;m0;").due("posts(-1)=11 posts(0)=0 posts(1)=1");
    }

    @Says("the YARDS that they have to go fewest, together, of several ways the first (by ROPE 0, the lowest MAN, then 1, ..)")
    static void ofSeveralWaysToPostTheFirst() {
        Run.laid(FIVE + "m9;m9;m9;m9;m9;m9;").due("posts(-1)=35 posts(0)=0 posts(1)=1 posts(2)=2 posts(3)=3 posts(4)=4");
        // Men 0 and 1 go 16 yards in either way.
        Run.laid("r3,1,0,0;r5,1,0,0;m12;m12;").due("posts(-1)=16 posts(0)=0 posts(1)=1");
        Run.laid("r5,1,0,0;r3,1,0,0;m12;m14;").due("posts(-1)=18 posts(0)=0 posts(1)=1");
        Run.laid("r5,1,0,0;m4;m6;").due("posts(-1)=1 posts(0)=0");
        // Men 0 and 2 go 2 yards in either way.
        Run.laid("r1,1,0,0;r0,1,0,0;m1;m23;m2;").due("posts(-1)=2 posts(0)=0 posts(1)=2");
    }

    @Says("the YARDS that they have to go fewest, together")
    static void fewerYardsComeBeforeTheFirstWay() {
        Run.laid(FIVE + "m23;m4;m3;m2;m1;m0;").due("posts(-1)=0 posts(0)=5 posts(1)=4 posts(2)=3 posts(3)=2 posts(4)=1");
        Run.laid("r5,1,0,0;m23;m23;m23;m23;m23;m6;").due("posts(-1)=1 posts(0)=5");
        // Man 0 is the next to rope 0, but by him at rope 1 the yards are 11 and not 13.
        Run.laid("r10,1,0,0;r12,1,0,0;m11;m0;m23;").due("posts(-1)=11 posts(0)=1 posts(1)=0");
    }

    @Says("the YARDS that they have to go fewest, together")
    static void fewestAndMostYards() {
        Run.laid("r0,1,0,0;m0;").due("posts(-1)=0");
        Run.laid("r0,1,0,0;m23;").due("posts(-1)=23");
        Run.laid("r23,1,0,0;m0;").due("posts(-1)=23");
        Run.laid(FIVE + "m23;m23;m23;m23;m23;m23;").due("posts(-1)=105").refuses("posts(-1)=105 posts(5)=BAD");
    }

    // ---- brown, promise 18

    @Says("BROWN: how many (what = 0), the longest row (1), its first YARD (2; NONE). BAD.")
    static void whatOfBrownIs0To2() {
        Run.laid("r3,1,0,20;").due("brown(-1)=BAD brown(0)=24 brown(1)=24 brown(2)=0 brown(3)=BAD")
            .all("BAD", "brown(MIN)", "brown(MAX)", "brown(-2)", "brown(4)").refuses("brown(-1)=BAD brown(3)=BAD brown(2)=0");
    }

    @Says({"its first YARD (2; NONE)", "the first YARD of that row; none."})
    static void nothingIsBrown() {
        Run.laid("r3,1,0,19;").due("brown(0)=0 brown(1)=0 brown(2)=NONE brown(3)=BAD").refuses("brown(2)=NONE brown(1)=0");
        Run.laid("r3,1,0,30;").due("brown(0)=0 brown(1)=0 brown(2)=NONE");
    }

    @Says("BROWN: how many YARDS are BROWN")
    static void allIsBrown() {
        Run.laid("r3,1,0,20;").due("brown(0)=24 brown(1)=24 brown(2)=0");
        Run.laid("r3,1,0,29;").due("brown(0)=24 brown(1)=24 brown(2)=0 hour(1,0)=1 brown(0)=0");
    }

    @Says("the longest row of such; the first YARD of that row")
    static void rowsAtTheOutermostYards() {
        Run.laid("r0,1,0,20;r1,1,0,0;").due("brown(0)=1 brown(1)=1 brown(2)=0");
        Run.laid("r22,1,0,0;r23,1,0,20;").due("brown(0)=1 brown(1)=1 brown(2)=23");
        Run.laid("r20,1,0,30;r21,1,0,29;").due("brown(0)=3 brown(1)=3 brown(2)=21");
    }

    @Says("the longest row of such; the first YARD of that row")
    static void ofSeveralRowsTheLongestThenTheFirst() {
        // Yards 0 and 2; then 0 to 1 and 4 alone; then 0 alone and 3 to 23.
        Run.laid("r0,1,0,20;r1,1,0,0;r2,1,0,20;r3,1,0,0;").due("brown(0)=2 brown(1)=1 brown(2)=0");
        Run.laid("r1,1,0,20;r2,1,0,0;r3,1,0,0;r4,1,0,20;r5,1,0,0;").due("brown(0)=3 brown(1)=2 brown(2)=0");
        Run.laid("r0,1,0,20;r1,1,0,0;r2,1,0,0;r3,1,0,20;").due("brown(0)=22 brown(1)=21 brown(2)=3");
        // The last row, 22 and 23, is shorter than the first one, 0 to 2.
        Run.laid("r2,1,0,20;r3,1,0,0;r21,1,0,0;r22,1,0,20;").due("brown(0)=5 brown(1)=3 brown(2)=0");
        // Two rows of two: yards 2 and 3, 20 and 21.
        Run.laid("r1,1,0,30;r4,1,0,15;r19,1,0,15;r22,1,0,30;").due("sky(2)=25 sky(3)=20 sky(4)=15 sky(20)=20 sky(21)=25")
            .due("brown(0)=4 brown(1)=2 brown(2)=2");
    }
}
