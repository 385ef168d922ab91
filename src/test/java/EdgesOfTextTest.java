import java.io.IOException;
import java.util.ArrayList;
import java.util.List;

/** Boundaries of the text, its items and its fault, and of promises 1 to 5. */
public final class EdgesOfTextTest {
    private static final int NONE = DuskOnRopes.NONE;
    /** 200 letters without fault: 5 ropes, 8 wants, 6 men, and costs up to the last letter. */
    private static final String FULL_TEXT = "r20,5,3,40;r21,5,3,40;r22,5,3,40;r23,5,3,40;r10,5,3,40;"
        + "w20,3;w20,3;w20,3;w20,3;w20,3;w20,3;w20,3;w20,3;" + "m20;m20;m20;m20;m20;m20;"
        + "c1,2;c1,2;c1,2;c1,2;c1,2;c1,2;c1,2;c1,2;c1,2;c1,2;c1,2;c01,2;c01,2;c03,4;";

    public static void main(String[] args) throws IOException {
        Edges.runAll(EdgesOfTextTest.class);
    }

    private static void faultOf(String text, int place) {
        Run run = Run.fresh().text(text).due("fault()=" + place + " count(6)=" + text.length());
        if (place != NONE) {
            run.due("lay()=NO count(0)=4");
        }
    }

    private static void fine(String... texts) {
        for (String text : texts) {
            faultOf(text, NONE);
            faultOf("m5;" + text, NONE);
        }
    }

    private static void faulty(String... texts) {
        for (String text : texts) {
            faultOf(text, 0);
            faultOf("m5;c09,1;" + text, 9);
            faultOf(text + "m5;", 0);
        }
    }

    // ---- the text as a whole

    @Says({"A TEXT is letters (200 at most)", "BAD; FULL."})
    static void textOf200LettersIsFull() {
        Run.fresh().text("m".repeat(199)).due("count(6)=199 write(109)=200 count(6)=200 write(109)=FULL count(6)=200");
    }

    @Says("A TEXT is letters (200 at most)")
    static void fullTextIsReadToItsLastLetter() {
        Check.due("its length", 200, FULL_TEXT.length());
        Run.fresh().text(FULL_TEXT).due("write(109)=FULL fault()=NONE lay()=5 count(0)=5 count(1)=8 count(2)=6")
            .due("count(6)=200 hour(1,2)=7");
        Run.fresh().text(FULL_TEXT.substring(0, 199)).due("fault()=194 lay()=NO write(44)=200 fault()=194 lay()=NO");
    }

    @Says("A letter (32 to 126, as in ASCII) comes behind THE TEXT: how long it is. BAD; FULL.")
    static void refusedLettersChangeNothing() {
        Run.fresh().text("r1,1,0,0;").refuses("write(31)=BAD write(127)=BAD write(MIN)=BAD write(MAX)=BAD");
        Run.fresh().text(FULL_TEXT).refuses("write(31)=BAD write(32)=FULL write(59)=FULL write(126)=FULL write(127)=BAD");
    }

    @Says("`DuskOnRopes()`: As told; THE TEXT is empty.")
    static void textOfNewObjectIsEmpty() {
        Run.fresh().due("count(6)=0 fault()=NONE wipe()=0 lay()=NO write(114)=1");
    }

    @Says("FAULT: the place (from 0 on) of the first letter of the first ITEM that is not so.")
    static void emptyTextHasNoFault() {
        Run.fresh().due("fault()=NONE write(120)=1 fault()=0 wipe()=1 fault()=NONE");
    }

    @Says("An object is used for at most 512 calls after it has been made")
    static void objectServesTo512thCall() {
        Run.fresh().text("x".repeat(200)).text("r0,1,0,0;").due("lay()=1 98*hour(1,0)=1 200*rope(0,3)=40")
            .due("hour(0,1)=2 rope(0,3)=39").calls(512);
    }

    // ---- letters, promise 2

    @Says("A letter (32 to 126, as in ASCII)")
    static void leastLetterIs32() {
        Run.fresh().due("write(31)=BAD count(6)=0 write(32)=1 write(33)=2 write(31)=BAD count(6)=2");
    }

    @Says("A letter (32 to 126, as in ASCII)")
    static void greatestLetterIs126() {
        Run.fresh().due("write(127)=BAD count(6)=0 write(126)=1 write(125)=2 write(127)=BAD count(6)=2");
    }

    @Says("A letter (32 to 126, as in ASCII)")
    static void farLettersAreBad() {
        // 370 and 65650 are 114, an r, and a multiple of 256 and of 65536.
        Run.fresh().all("BAD", "write(0)", "write(-1)", "write(128)", "write(370)", "write(65650)", "write(-142)",
            "write(MIN)", "write(MAX)").due("count(6)=0");
    }

    @Says("Of several the first in this order; nothing changes then.")
    static void badLetterForFullTextIsBad() {
        Run.fresh().text(FULL_TEXT).due("write(31)=BAD write(127)=BAD write(126)=FULL write(32)=FULL");
    }

    // ---- wiping, promise 3

    @Says("`int wipe()`: THE TEXT is empty: how long it was.")
    static void wipingTellsNoughtOneAndAll() {
        Run.fresh().due("wipe()=0 wipe()=0 write(99)=1 wipe()=1 wipe()=0");
        Run.fresh().text(FULL_TEXT).due("wipe()=200 count(6)=0 write(109)=1 write(49)=2 write(59)=3 fault()=NONE");
    }

    @Says({"`int wipe()`: THE TEXT is empty", "LAID is a TEXT without FAULT"})
    static void wipingLeavesWhatIsLaid() {
        Run.laid("r3,2,2,10;w3,1;m4;c5,6;").due("hour(1,0)=5 grease(0)=2 keep()=1 seen(3,12)=1 wipe()=23")
            .due("count(0)=1 count(1)=1 count(2)=1 count(3)=1 count(4)=2 count(5)=1 rope(0,3)=11 met()=1 posts(-1)=1")
            .due("spent(0)=5 hour(0,1)=6 undo()=2 back()=0");
    }

    // ---- the form of items

    @Says("ITEMS one behind the other, each a letter")
    static void otherLettersAreFaults() {
        String[] items = {"%s1,1,0,0;", "%s1,1;", "%s1;", "%s;", "%s"};
        for (char c = 32; c <= 126; c++) {
            if (c == 'r' || c == 'w' || c == 'm' || c == 'c') {
                continue;
            }
            for (String item : items) {
                faultOf(item.replace("%s", "" + c), 0);
            }
        }
    }

    @Says("ITEMS one behind the other, each a letter")
    static void nothingStandsBetweenItems() {
        faultOf("m1; m2;", 3);
        faultOf("m1;;m2;", 3);
        faultOf("m1;,m2;", 3);
        faultOf("m1;1;m2;", 3);
        faultOf(" m1;", 0);
        faultOf("m1; ", 3);
        faultOf("mm1;", 0);
    }

    @Says("ITEMS one behind the other")
    static void itemsMayStandInAnyOrder() {
        fine("m1;c1,1;w1,1;r1,1,1,1;w2,2;m2;r2,2,2,2;c2,2;", "c1,1;r0,1,0,0;c0,0;", "w1,1;m1;w1,1;m1;");
    }

    /** All texts in which one number of an item is put in another way. */
    private static String[] withNumber(String way) {
        String[][] items = {{"r", "7", "1", "0", "3"}, {"w", "7", "1"}, {"m", "7"}, {"c", "7", "1"}};
        List<String> all = new ArrayList<>();
        for (String[] item : items) {
            for (int at = 1; at < item.length; at++) {
                StringBuilder text = new StringBuilder(item[0]);
                for (int i = 1; i < item.length; i++) {
                    text.append(i > 1 ? "," : "").append(i == at ? way.replace("%s", item[i]) : item[i]);
                }
                all.add(text.append(";").toString());
            }
        }
        return all.toArray(new String[0]);
    }

    @Says("then numbers (one or two figures)")
    static void numbersHaveOneOrTwoFigures() {
        fine(withNumber("%s"));
        fine(withNumber("0%s"));
        faulty(withNumber(""));
        faulty(withNumber("00%s"));
        faulty(withNumber("000%s"));
    }

    @Says("then numbers (one or two figures)")
    static void numbersAreFiguresAlone() {
        // / and : stand beside 0 and 9 in ASCII.
        String[] ways = {"/", ":", "/%s", ":%s", "%s/", "%s:", "-%s", "+%s", " %s", "%s ", "%s.0", "a", "%sa", "a%s", ";", "0x1"};
        for (String way : ways) {
            faulty(withNumber(way));
        }
    }

    @Says("parted by , and a ; behind the last one")
    static void numbersArePartedByCommas() {
        for (String sign : new String[] {";", ".", " ", "", "-", ",,", ", ", "+"}) {
            faulty("r7" + sign + "1,0,3;", "r7,1" + sign + "0,3;", "r7,1,0" + sign + "3;", "w7" + sign + "1;", "c7" + sign + "1;");
        }
    }

    @Says("parted by , and a ; behind the last one")
    static void itemsEndWithSemicolon() {
        for (String sign : new String[] {"", ",", ".", ":", " ", " ;", ",;"}) {
            faulty("r7,1,0,3" + sign + "m1;", "w7,1" + sign + "m1;", "m7" + sign + "m1;", "c7,1" + sign + "m1;");
            faultOf("m1;r7,1,0,3" + sign, 3);
            faultOf("m1;w7,1" + sign, 3);
            faultOf("m1;m7" + sign, 3);
            faultOf("m1;c7,1" + sign, 3);
        }
    }

    @Says("each a letter, then numbers (one or two figures) parted by , and a ; behind the last one")
    static void itemsThatBreakOffAreFaultsAtTheirFirstLetter() {
        for (String item : new String[] {"r23,5,3,40;", "w23,3;", "m23;", "c9,9;"}) {
            for (int cut = 1; cut < item.length(); cut++) {
                faultOf(item.substring(0, cut), 0);
                faultOf("w11,2;" + item.substring(0, cut), 6);
            }
            faultOf(item, NONE);
        }
    }

    @Says({"rX,P,K,T a ROPE", "wY,U YARD", "mX a MAN", "cD,H an hour"})
    static void itemsHaveAsManyNumbersAsToldNoFewerNoMore() {
        faulty("r7,1,0;", "r7,1;", "r7;", "r;", "r7,1,0,3,0;", "w7;", "w;", "w7,1,0;", "m;", "m7,1;", "c7;", "c;", "c7,1,0;");
    }

    // ---- ropes

    @Says("a ROPE over YARD X (0 to 23; none over the same)")
    static void ropesAreOverYards0To23() {
        fine("r0,1,0,0;", "r23,1,0,0;");
        faulty("r24,1,0,0;", "r25,1,0,0;", "r99,1,0,0;");
    }

    @Says("(0 to 23; none over the same)")
    static void secondRopeOverTheSameYardIsFault() {
        faultOf("r0,1,0,0;r0,1,0,0;", 9);
        faultOf("r23,1,0,0;r23,2,1,3;", 10);
        faultOf("r7,1,0,0;r07,2,1,3;", 9);
        faultOf("r7,1,0,0;r8,1,0,0;m7;w7,1;r6,1,0,0;r7,1,0,0;", 35);
        fine("r6,1,0,0;r7,1,0,0;r5,1,0,0;", "r7,1,0,0;w7,0;m7;w7,1;m7;");
    }

    @Says("wound by P (1 to 5) TURNS an hour")
    static void pacesAre1To5() {
        fine("r0,1,0,0;", "r0,5,0,0;");
        faulty("r0,0,0,0;", "r0,6,0,0;", "r0,10,0,0;", "r0,99,0,0;");
    }

    @Says("of KIND K (0 SOUND, 1 GREASED, 2 FRAYED, 3 STUCK)")
    static void kindsAre0To3() {
        fine("r0,1,0,0;", "r0,1,3,0;");
        faulty("r0,1,4,0;", "r0,1,10,0;", "r0,1,99,0;");
    }

    @Says("T (0 to 40) TURNS let out")
    static void turnsAre0To40() {
        fine("r0,1,0,0;", "r0,1,0,40;");
        faulty("r0,1,0,41;", "r0,1,0,50;", "r0,1,0,99;");
    }

    @Says("T (0 to 40) TURNS let out; 5 at most, 0, 1, ..")
    static void sixthRopeIsFault() {
        String five = "r0,1,0,0;r1,1,0,0;r2,1,0,0;r3,1,0,0;r4,1,0,0;";
        fine(five, five + "w0,0;m0;c0,0;");
        faultOf(five + "r5,1,0,0;", 45);
        faultOf("w1,1;" + five + "m1;r5,1,0,0;", 53);
        Run.fresh().text(five).due("fault()=NONE fault()=NONE lay()=5 fault()=NONE lay()=5");
    }

    @Says("5 at most, 0, 1, ..")
    static void ropesAreCountedAsTheTextHasThem() {
        Run.laid("r9,1,0,0;r4,2,1,1;r23,3,2,2;r0,4,3,3;r5,5,0,4;").due("rope(0,0)=9 rope(1,0)=4 rope(2,0)=23 rope(3,0)=0")
            .due("rope(4,0)=5 rope(5,0)=BAD rope(0,1)=1 rope(4,1)=5 rope(3,2)=3 rope(4,3)=4");
    }

    // ---- wants, men, costs

    @Says("wY,U YARD Y (0 to 23) WANTS LIGHT U (0 to 3)")
    static void wantsAreOfYards0To23() {
        fine("w0,0;", "w23,0;");
        faulty("w24,0;", "w25,0;", "w99,0;");
    }

    @Says("WANTS LIGHT U (0 to 3)")
    static void wantsAreOfLights0To3() {
        fine("w0,0;", "w0,3;");
        faulty("w0,4;", "w0,10;", "w0,99;");
    }

    @Says("WANTS LIGHT U (0 to 3); 8 at most, 0, 1, ..")
    static void ninthWantIsFault() {
        String eight = "w1,1;w1,1;w2,0;w3,0;w4,0;w5,3;w6,3;w7,3;";
        fine(eight, eight + "r0,1,0,0;m0;c0,0;");
        faultOf(eight + "w8,0;", 40);
        faultOf("m1;" + eight + "r0,1,0,0;w1,1;", 52);
        Run.fresh().text(eight).due("fault()=NONE fault()=NONE");
    }

    @Says("mX a MAN who lives under YARD X (0 to 23)")
    static void menLiveUnderYards0To23() {
        fine("m0;", "m23;");
        faulty("m24;", "m25;", "m99;");
    }

    @Says("a MAN who lives under YARD X (0 to 23); 6 at most, 0, 1, ..")
    static void seventhManIsFault() {
        String six = "m1;m1;m2;m3;m4;m5;";
        faultOf(six, NONE);
        faultOf(six + "r0,1,0,0;w0,0;c0,0;", NONE);
        faultOf(six + "m6;", 18);
        faultOf("w1,1;" + six + "c0,0;m1;", 28);
        Run.fresh().text(six).due("fault()=NONE fault()=NONE");
    }

    @Says("(0 to 9 each; 1, 2 without; of several the last one counts)")
    static void costsAre0To9Each() {
        fine("c0,0;", "c9,0;", "c0,9;", "c9,9;", "c09,09;");
        faulty("c10,0;", "c0,10;", "c11,0;", "c0,11;", "c99,0;", "c0,99;");
        Run.laid("r1,1,0,9;r2,1,0,9;c0,9;").due("hour(1,0)=0 hour(0,1)=9 hour(2,1)=9 spent(0)=18");
        Run.laid("r1,1,0,9;r2,1,0,9;c9,0;").due("hour(1,0)=9 hour(0,1)=0 hour(2,1)=9 spent(0)=18");
    }

    @Says("(0 to 9 each; 1, 2 without; of several the last one counts)")
    static void costsAre1And2Without() {
        Run.laid("r1,1,0,9;r2,1,0,9;").due("hour(1,0)=1 hour(0,1)=2");
        // Nor do costs of an earlier text count, be it laid or only looked at.
        Run.laid("r1,1,0,9;c7,8;").due("hour(1,0)=7 hour(0,1)=8").text("r1,1,0,9;").due("lay()=1 hour(1,0)=1 hour(0,1)=2")
            .due("lay()=1 hour(1,0)=1 hour(0,1)=2 lay()=1 hour(1,0)=1 hour(0,1)=2");
        Run.fresh().text("r1,1,0,9;c7,8;").due("fault()=NONE").text("r1,1,0,9;").due("lay()=1 hour(1,0)=1 hour(0,1)=2");
        Run.fresh().text("r1,1,0,9;c7,8;x").due("lay()=NO").text("r1,1,0,9;").due("lay()=1 hour(1,0)=1 hour(0,1)=2");
    }

    @Says("of several the last one counts")
    static void lastCostsCount() {
        Run.laid("c9,9;r1,1,0,9;c3,4;").due("hour(1,0)=3 hour(0,1)=4");
        Run.laid("c3,4;c5,6;r1,1,0,9;c1,2;c8,7;").due("hour(1,0)=8 hour(0,1)=7");
        Run.laid("c3,4;c0,0;r1,1,0,9;").due("hour(1,0)=0 hour(0,1)=0");
    }

    // ---- the fault, promise 4

    @Says("the place (from 0 on) of the first letter of the first ITEM that is not so.")
    static void faultOfFirstItemIsAtPlace0() {
        faultOf("x", 0);
        faultOf("r1,1,0,41;", 0);
        faultOf("m1;x", 3);
    }

    @Says("the place (from 0 on) of the first letter of the first ITEM that is not so.")
    static void ofSeveralFaultsTheFirstCounts() {
        faultOf("m1;m24;m25;x", 3);
        faultOf("m1;m2;m25;m24;", 6);
        faultOf("r1,1,0,0;w1,4;r1,1,0,0;", 9);
    }

    @Says("the place (from 0 on) of the first letter of the first ITEM that is not so.")
    static void faultAtTheLastPlace() {
        Run.fresh().text(FULL_TEXT.substring(0, 194)).due("fault()=NONE write(109)=195 fault()=194");
        Run.fresh().text("c1,1;".repeat(39) + "m12;m").due("count(6)=200 fault()=199 lay()=NO write(59)=FULL fault()=199");
        Run.fresh().text("c1,1;".repeat(40)).due("count(6)=200 fault()=NONE lay()=NO");
    }

    @Says("`int fault()`: FAULT. NONE.")
    static void faultChangesNothing() {
        Run.fresh().text("m1;x").refuses("fault()=3");
        Run.fresh().text("r1,1,0,0;m1;c9,9;").refuses("fault()=NONE");
        Run.laid("r3,2,2,10;w3,1;m4;c5,6;").due("hour(1,0)=5").text("r9,5,1,1;c0,0;x").refuses("fault()=14");
        Run.fresh().refuses("fault()=NONE");
    }

    @Says("`int fault()`: FAULT. NONE.")
    static void textWithoutRopeHasNoFault() {
        fine("m1;", "w1,1;", "c1,1;", "w1,1;m1;c1,1;");
    }

    // ---- laying, promise 5

    @Says("LAID is a TEXT without FAULT, of a ROPE at least (NO else;")
    static void textWithoutRopeIsNotLaid() {
        Run.fresh().text("w1,1;m1;c1,1;").due("fault()=NONE lay()=NO").refuses("lay()=NO");
        Run.fresh().refuses("lay()=NO");
    }

    @Says("LAID is a TEXT without FAULT, of a ROPE at least (NO else;")
    static void textWithFaultIsNotLaid() {
        Run.laid("r3,2,2,10;w3,1;m4;c5,6;").due("hour(1,0)=5 grease(0)=2 keep()=1 hour(0,1)=6 seen(3,9)=1")
            .text("r9,5,1,1;r9,5,1,1;").refuses("lay()=NO")
            .text("r9,5,1,1;w1,1;m1;c9,9;x").refuses("lay()=NO")
            .text("r9,5,1,1").refuses("lay()=NO")
            .text("m1;c3,3;").refuses("lay()=NO")
            .text("").refuses("lay()=NO");
    }

    @Says("LAID is a TEXT without FAULT, of a ROPE at least (NO else;")
    static void oneRopeIsEnoughAndFiveAreLaid() {
        Run.fresh().text("r0,1,0,0;").due("lay()=1 count(0)=1 count(1)=0 count(2)=0 rope(0,0)=0 rope(1,0)=BAD");
        Run.fresh().text("r0,1,0,0;r1,1,0,0;r2,1,0,0;r3,1,0,0;r4,1,0,0;").due("lay()=5 count(0)=5 rope(4,0)=4 rope(5,0)=BAD");
    }

    @Says("LAID: how many ROPES; hour 0, nothing SEEN, UNDONE, KEPT (THE TEXT stays). NO.")
    static void layingBeginsAnew() {
        Run.laid("r3,2,3,10;c5,6;").due("hour(1,0)=5 grease(0)=3 seen(3,9)=1 seen(3,9)=2 keep()=1 keep()=2")
            .due("count(3)=2 count(4)=2 count(5)=2 spent(0)=5 spent(1)=1 lay()=1")
            .due("count(3)=0 count(4)=0 count(5)=0 spent(0)=0 spent(1)=0 undo()=NO back()=NO forget()=0 count(6)=15")
            .due("rope(0,2)=3 rope(0,3)=10 fault()=NONE keep()=1 seen(0,0)=1");
    }

    @Says({"hour 0, nothing SEEN, UNDONE, KEPT", "STUCK: by P, in hours of even number alone."})
    static void layingBeginsWithAnEvenHour() {
        Run.laid("r3,2,3,10;").due("hour(1,0)=1 rope(0,3)=12 lay()=1 hour(1,0)=1 rope(0,3)=12 hour(1,0)=1 rope(0,3)=12");
    }

    @Says({"hour 0, nothing SEEN, UNDONE, KEPT", "NO: 99 have gone by."})
    static void layingBehind99HoursLetsHoursGoBy() {
        Run.laid("r3,1,0,0;").due("99*hour(1,0)=1 hour(1,0)=NO lay()=1 spent(1)=0 hour(1,0)=1 rope(0,3)=1 spent(1)=1");
    }

    @Says("(THE TEXT stays)")
    static void textStaysWhenLaidAndCanBeWrittenOn() {
        Run.fresh().text("r3,1,0,0;").due("lay()=1 count(6)=9 write(109)=10 fault()=9 lay()=NO count(2)=0 write(50)=11")
            .due("write(59)=12 fault()=NONE count(2)=0 lay()=1 count(2)=1");
    }

    @Says("at first r2,3,0,0;r9,2,2,4;r15,4,1,0;r21,5,3,6;w4,1;w10,2;w20,0;m0;m8;m12;m23;m16;c1,2;")
    static void newObjectIsAsTold() {
        Run.fresh().due("count(0)=4 count(1)=3 count(2)=5 count(3)=0 count(4)=0 count(5)=0 spent(0)=0 spent(1)=0")
            .due("rope(0,0)=2 rope(0,1)=3 rope(0,2)=0 rope(0,3)=0 rope(1,0)=9 rope(1,1)=2 rope(1,2)=2 rope(1,3)=4")
            .due("rope(2,0)=15 rope(2,1)=4 rope(2,2)=1 rope(2,3)=0 rope(3,0)=21 rope(3,1)=5 rope(3,2)=3 rope(3,3)=6")
            .due("undo()=NO back()=NO forget()=0 rope(4,0)=BAD hour(16,0)=BAD hour(7,8)=5");
    }

    @Says("w4,1;w10,2;w20,0;")
    static void firstWantsAreAsTold() {
        // Ropes 0 and 1 go to 12 and 10: yard 4 is 11 low, yard 10 is 8, yard 20 stays 5 low.
        Run.fresh().due("met()=4 4*hour(3,0)=2 sky(4)=11 sky(10)=8 sky(20)=5 met()=5")
            // Rope 1 goes to 19, rope 2 to 30: yard 4 is 14 low, yard 10 is 20, yard 20 is 10.
            .due("6*hour(6,0)=2 rope(1,3)=19 rope(2,3)=30 sky(4)=14 sky(10)=20 sky(20)=10 met()=3");
    }

    @Says("m0;m8;m12;m23;m16;")
    static void firstMenAreAsTold() {
        // 0 to 2, 8 to 9, 16 to 15, 23 to 21: 2, 1, 1 and 2 yards.
        Run.fresh().due("posts(-1)=6 posts(0)=0 posts(1)=1 posts(2)=4 posts(3)=3 posts(4)=BAD");
    }

    /** What was laid earlier must not shine through. */
    @Says("hour 0, nothing SEEN, UNDONE, KEPT (THE TEXT stays)")
    static void layingForgetsTheValleyBefore() {
        Run.fresh().text("r4,4,0,12;").due("lay()=1 count(1)=0 count(2)=0 met()=0 posts(-1)=NONE plan(-1)=0 rope(1,0)=BAD")
            .due("sky(0)=12 sky(23)=12 hour(2,0)=BAD");
    }
}
