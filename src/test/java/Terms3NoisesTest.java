/**
 * Terms, part 3 (noises: heard, hired, the burglar's way, shams, odds), and what promises 20 to 28 say
 * of them: a test for each sentence that names an edge. Answers are worked out by hand.
 */
public final class Terms3NoisesTest {
    private static final int BAD = -1, FULL = -3, NONE = -9;
    private static final int ALL_STRENGTHS = 99;

    private Terms3NoisesTest() {
    }

    public static void main(String[] args) {
        heard();
        sources();
        hired();
        way();
        taps();
        odds();
        Due.end();
    }

    private static void heard() {
        heardFourAtMost();
        heardNumbers();
        forgotten();
        forgetRefused();
    }

    private static void sources() {
        nothingHeard();
        loudByNothing();
        loudByNinetyNine();
        strengthsFromOne();
        strengthsToNinetyNine();
        strengthsOfSilence();
        fromOneSameNoise();
        thatNobodyTold();
        sourcesBySheetsAsTheyAre();
        strengthsRefused();
    }

    private static void hired() {
        hiredByVAtLeast();
        hiredFromOne();
        hiredToNinetyNine();
        hiredAtItsOwnCell();
        hiredOneWay();
        hiredRefused();
    }

    private static void way() {
        wayOfNoSteps();
        wayAtBothEnds();
        wayFewestSteps();
        wayAllAround();
        wayByMost();
        wayByAnyRoom();
        wayWithoutHours();
        wayUnderSheets();
        wayNone();
        wayRefused();
    }

    private static void taps() {
        tapsFourAtMost();
        tapNumbers();
        noTaps();
        justOneSham();
        shamThatIsLaid();
        shamIsThin();
        shamWornThrough();
        tapsByV();
        allTapsSo();
        tapsOneWay();
    }

    private static void odds() {
        oddsOfEachForItself();
        oddsOfNothing();
        oddsInLeastTerms();
        oddsByMost();
        oddsWithoutHours();
        oddsRefused();
    }

    private static void due(String call, long got, long want) {
        Due.due(call, got, want);
    }

    private static QuietByYard told(String letters) {
        return Due.told(letters);
    }

    // ---- heard, forgotten

    private static void heardFourAtMost() {
        Due.sentence("HEARD (4 at most): how much there is. FULL");
        QuietByYard yard = told("g2 1;f1;");
        due("none", yard.count(6), 0);
        for (int n = 1; n <= 4; n++) {
            due("hear", yard.hear(1, 50), n);
            due("count", yard.count(6), n);
        }
        due("the fifth", yard.hear(0, 0), FULL);
        due("four stay", yard.count(6), 4);
        due("the fifth did not count", yard.sources(), 3);
        due("forgotten", yard.forget(0), 4);
        due("there is room again", yard.hear(0, 0), 1);
    }

    private static void heardNumbers() {
        Due.sentence("in a CELL it was LOUD by v (0 .. 99). BAD");
        QuietByYard yard = told("g4 3;");
        due("v -1", yard.hear(0, -1), BAD);
        due("v 100", yard.hear(0, 100), BAD);
        due("cell -1", yard.hear(-1, 0), BAD);
        due("cell 12", yard.hear(12, 0), BAD);
        due("least", yard.hear(0, 0), 1);
        due("greatest", yard.hear(11, 99), 2);
        yard.hear(0, 0);
        yard.hear(0, 0);
        due("BAD ahead of FULL: v", yard.hear(0, 100), BAD);
        due("BAD ahead of FULL: cell", yard.hear(12, 0), BAD);
        due("FULL", yard.hear(11, 99), FULL);
    }

    private static void forgotten() {
        Due.sentence("Nothing was HEARD (what = 0), no TAPS (1): how many there were");
        QuietByYard yard = told("g2 1;f1;s1 1 1 1;");
        due("none heard", yard.forget(0), 0);
        due("no taps", yard.forget(1), 0);
        yard.lay(0, 0);
        yard.hear(0, 0);
        yard.hear(0, 0);
        yard.hear(0, 0);
        yard.tap(0, 1, 0, 0);
        yard.tap(0, 1, 0, 0);
        due("three heard", yard.forget(0), 3);
        due("two taps stay", yard.count(7), 2);
        due("a source can be anywhere", yard.sources(), 3);
        due("no sham can be", yard.mayBe(), 0);
        yard.hear(0, 0);
        due("two taps", yard.forget(1), 2);
        due("one heard stays", yard.count(6), 1);
        due("any can be the sham", yard.mayBe(), 1);
        due("not at 0", yard.sources(), 2);
    }

    private static void forgetRefused() {
        Due.sentence("forget(): BAD");
        QuietByYard yard = told("");
        yard.hear(0, 0);
        yard.tap(0, 1, 0, 0);
        due("forget(2)", yard.forget(2), BAD);
        due("forget(-1)", yard.forget(-1), BAD);
        due("heard stays", yard.count(6), 1);
        due("taps stay", yard.count(7), 1);
    }

    // ---- sources, strengths

    private static void nothingHeard() {
        Due.sentence("SOURCES, if nothing is HEARD: with some STRENGTH (1 .. 99)");
        due("six", told("").sources(), 63);
        due("one", told("g1 1;").sources(), 1);
        due("twelve", told("g4 3;").sources(), 4095);
        due("99", told("g4 3;").strengths(11), ALL_STRENGTHS);
        due("99, loud or not", told("g1 1;n0 50 0 23;").strengths(0), ALL_STRENGTHS);
    }

    private static void loudByNothing() {
        Due.sentence("it was LOUD by 0: not where it is");
        QuietByYard yard = told("g2 1;f5;");
        yard.hear(0, 0);
        due("1 is the least", yard.strengths(0), 0);
        due("1 to 5 beside it", yard.strengths(1), 5);
        due("beside it alone", yard.sources(), 2);
        yard.hear(1, 0);
        due("nowhere", yard.sources(), 0);
        yard = told("g1 1;");
        yard.hear(0, 0);
        due("in the only cell", yard.sources(), 0);
    }

    private static void loudByNinetyNine() {
        Due.sentence("it was LOUD by 99: just where it is");
        QuietByYard yard = told("g4 3;f1;");
        yard.hear(11, 99);
        due("there", yard.sources(), 1 << 11);
        due("99", yard.strengths(11), 1);
        due("100 is none", yard.strengths(10), 0);
    }

    private static void strengthsFromOne() {
        Due.sentence("STRENGTH 1 at least");
        QuietByYard yard = told("g2 1;f5;");
        yard.hear(0, 1);
        due("1 where it is", yard.strengths(0), 1);
        due("6 beside it", yard.strengths(1), 1);
        due("either", yard.sources(), 3);
        yard.forget(0);
        yard.hear(0, 0);
        due("beside it 1 to 5, not 0", yard.strengths(1), 5);
        due("where it is 0 is none", yard.strengths(0), 0);
    }

    private static void strengthsToNinetyNine() {
        Due.sentence("STRENGTH 99 at most");
        QuietByYard yard = told("g4 1;f5;");
        yard.hear(0, 89);
        due("89 at 0", yard.strengths(0), 1);
        due("94 at 1", yard.strengths(1), 1);
        due("99 at 2", yard.strengths(2), 1);
        due("104 at 3", yard.strengths(3), 0);
        due("0, 1, 2", yard.sources(), 7);
        yard.forget(0);
        yard.hear(0, 90);
        due("100 at 2", yard.strengths(2), 0);
        due("0, 1", yard.sources(), 3);
    }

    private static void strengthsOfSilence() {
        Due.sentence("HOW MANY STRENGTHS it can have, if it was LOUD by 0");
        int[] thick = {3, 4, 5, 30};
        int[] strengths = {98, 99, 99, 99};
        for (int i = 0; i < thick.length; i++) {
            QuietByYard yard = told("g4 3;f19;s" + thick[i] + " 1 1 1;");
            yard.lay(0, 11);
            yard.hear(11, 0);
            due("five steps of 19, and " + thick[i], yard.strengths(0), strengths[i]);
            due("not where it was heard", yard.strengths(11), 0);
        }
        QuietByYard yard = told("g2 1;f1;");
        yard.hear(1, 0);
        due("1 alone", yard.strengths(0), 1);
    }

    private static void fromOneSameNoise() {
        Due.sentence("from one same NOISE");
        QuietByYard yard = told("g3 1;f5;");
        yard.hear(0, 20);
        yard.hear(2, 20);
        due("in the middle", yard.sources(), 2);
        due("of 25", yard.strengths(1), 1);
        yard.hear(1, 25);
        due("25 where it is", yard.sources(), 2);
        yard.forget(0);
        yard.hear(0, 20);
        yard.hear(0, 20);
        due("the same twice", yard.sources(), 7);
        yard.hear(0, 21);
        due("20 and 21", yard.sources(), 0);
        yard.forget(0);
        yard.hear(0, 0);
        yard.hear(2, 3);
        due("at 1: 8 is not 0 at 0", yard.strengths(1), 0);
        due("at 2: 3 is 0 at 0", yard.strengths(2), 1);
        due("at 2 alone", yard.sources(), 4);
        yard.forget(0);
        yard.hear(0, 1);
        yard.hear(2, 0);
        due("at 0, 1: 0 at 2", yard.strengths(0), 1);
        due("at 1: 6 is 1 at 2", yard.strengths(1), 0);
    }

    private static void thatNobodyTold() {
        Due.sentence("from a NOISE that nobody told");
        QuietByYard yard = told("g2 1;f5;n0 99 0 23;");
        yard.hear(0, 5);
        due("what was told is not asked", yard.strengths(0), 1);
        due("either cell", yard.sources(), 3);
    }

    private static void sourcesBySheetsAsTheyAre() {
        Due.sentence("SHEETS as they are NOW");
        QuietByYard yard = told("g3 1;f1;n1 99 0 23;s3 1 1 1;");
        yard.hear(0, 10);
        yard.hear(2, 8);
        due("from 0: 10, 9, 8", yard.sources(), 1);
        yard.lay(0, 2);
        due("from 0: 10, 9, 5", yard.strengths(0), 0);
        due("nowhere: from 1 it is 10 and 7", yard.sources(), 0);
        yard.hour();
        yard.hour();
        due("2 thick now: from 1 it is 10 and 8", yard.sources(), 2);
    }

    private static void strengthsRefused() {
        Due.sentence("HOW MANY STRENGTHS. BAD");
        QuietByYard yard = told("g4 3;");
        due("cell 12", yard.strengths(12), BAD);
        due("cell -1", yard.strengths(-1), BAD);
        due("cell 6 of six", told("").strengths(6), BAD);
    }

    // ---- hired

    private static void hiredByVAtLeast() {
        Due.sentence("HIRED: the least STRENGTH by which it is LOUD by v at least");
        QuietByYard yard = told("g3 1;f5;n2 99 0 23;s7 1 1 1;");
        due("a step", yard.hired(0, 1, 1), 6);
        due("two", yard.hired(0, 2, 1), 11);
        due("by 40", yard.hired(0, 2, 40), 50);
        yard.lay(0, 1);
        due("onto a sheet", yard.hired(0, 1, 1), 13);
        due("behind it", yard.hired(0, 2, 1), 18);
        yard = told("g3 2;f1;s30 1 1 1;");
        yard.lay(0, 1);
        due("around it", yard.hired(0, 2, 1), 5);
    }

    private static void hiredFromOne() {
        Due.sentence("HIRED: STRENGTH 1 at least");
        due("1", told("g1 1;").hired(0, 0, 1), 1);
        due("2, as FALL is 1", told("g2 1;f1;").hired(0, 1, 1), 2);
    }

    private static void hiredToNinetyNine() {
        Due.sentence("HIRED: STRENGTH 99 at most; NONE");
        QuietByYard yard = told("g3 1;f5;");
        due("99 where it is", yard.hired(0, 0, 99), 99);
        due("94 beside it", yard.hired(0, 1, 94), 99);
        due("95", yard.hired(0, 1, 95), NONE);
        due("89 two steps away", yard.hired(2, 0, 89), 99);
        due("90", yard.hired(2, 0, 90), NONE);
        yard = told("g4 3;f20;");
        due("four steps of 20", yard.hired(0, 10, 19), 99);
        due("one more", yard.hired(0, 10, 20), NONE);
        due("five steps", yard.hired(0, 11, 1), NONE);
    }

    private static void hiredAtItsOwnCell() {
        Due.sentence("HIRED: where it is, its STRENGTH");
        QuietByYard yard = told("g2 1;f20;s30 1 1 1;");
        yard.lay(0, 0);
        due("under a sheet", yard.hired(0, 0, 50), 50);
    }

    private static void hiredOneWay() {
        Due.sentence("HIRED: of a NOISE at a CELL, LOUD at another");
        QuietByYard yard = told("g2 1;f5;s7 1 1 1;");
        yard.lay(0, 1);
        due("onto it", yard.hired(0, 1, 10), 22);
        due("from it", yard.hired(1, 0, 10), 15);
        due("onto it, 99", yard.hired(0, 1, 87), 99);
        due("onto it, 100", yard.hired(0, 1, 88), NONE);
        due("from it, 93", yard.hired(1, 0, 88), 93);
    }

    private static void hiredRefused() {
        Due.sentence("HIRED, v (1 .. 99). BAD");
        QuietByYard yard = told("g2 2;");
        due("v 0", yard.hired(0, 0, 0), BAD);
        due("v 100", yard.hired(0, 0, 100), BAD);
        due("v -1", yard.hired(0, 0, -1), BAD);
        due("from 4", yard.hired(4, 0, 1), BAD);
        due("from -1", yard.hired(-1, 0, 1), BAD);
        due("to 4", yard.hired(0, 4, 1), BAD);
        due("to -1", yard.hired(0, -1, 1), BAD);
        due("the last of each", yard.hired(3, 3, 99), 99);
    }

    // ---- a burglar's way

    private static void wayOfNoSteps() {
        Due.sentence("WAY: the fewest steps, if he is there");
        due("no rooms", told("").way(0, 0, 99), 0);
        due("the only cell", told("g1 1;").way(0, 0, 1), 0);
        due("MOST is enough", told("g1 1;r0 0 0 98;").way(0, 0, 98), 0);
        due("MOST is too little", told("g1 1;r0 0 0 98;").way(0, 0, 99), NONE);
    }

    private static void wayAtBothEnds() {
        Due.sentence("a NOISE of n wherever he is (at both ends, too)");
        QuietByYard yard = told("g3 1;f20;r2 0 0 19;");
        due("he ends where he is heard", yard.way(0, 2, 20), NONE);
        due("he begins where he is heard", yard.way(2, 0, 20), NONE);
        due("both", yard.way(2, 2, 20), NONE);
        due("he ends beside it", yard.way(0, 1, 20), 1);
        due("he begins beside it", yard.way(1, 0, 20), 1);
        due("not so loud", yard.way(0, 2, 19), 2);
        yard = told("g3 1;f20;r1 0 0 19;");
        due("heard between the ends", yard.way(0, 2, 20), NONE);
        due("not so loud", yard.way(2, 0, 19), 2);
    }

    private static void wayFewestSteps() {
        Due.sentence("the fewest steps over CELLS that are NEXT");
        QuietByYard yard = told("g4 3;");
        due("to the far corner", yard.way(0, 11, 99), 5);
        due("and back", yard.way(11, 0, 99), 5);
        due("across", yard.way(3, 8, 1), 5);
        due("not over a row's end", yard.way(3, 4, 1), 4);
        due("up", yard.way(8, 0, 1), 2);
        due("along", yard.way(4, 7, 1), 3);
        yard = told("f20;r1 0 0 19;");
        due("straight", yard.way(0, 2, 19), 2);
        due("around", yard.way(0, 2, 20), 4);
    }

    private static void wayAllAround() {
        Due.sentence("the fewest steps, however many");
        QuietByYard yard = told("g4 3;f20;r4 0 0 19;r5 0 0 19;r6 0 0 19;");
        due("0 1 2 3 7 11 10 9 8", yard.way(0, 8, 20), 8);
        due("and back", yard.way(8, 0, 20), 8);
        due("half of it", yard.way(0, 11, 20), 5);
        due("straight", yard.way(0, 8, 19), 2);
    }

    private static void wayByMost() {
        Due.sentence("so that no ROOM hears him above its MOST");
        QuietByYard yard = told("g2 1;f5;r1 0 0 20;");
        due("25 is 20 there", yard.way(0, 0, 25), 0);
        due("26 is 21", yard.way(0, 0, 26), NONE);
        due("20 in it", yard.way(0, 1, 20), 1);
        due("21 in it", yard.way(0, 1, 21), NONE);
        yard = told("g2 1;f5;r1 0 0 0;");
        due("5 is 0 there", yard.way(0, 0, 5), 0);
        due("6 is 1", yard.way(0, 0, 6), NONE);
        due("1 in it", yard.way(0, 1, 1), NONE);
        due("99 in a room of 99", told("g1 1;r0 0 0 99;").way(0, 0, 99), 0);
    }

    private static void wayByAnyRoom() {
        Due.sentence("so that no ROOM hears him");
        String[] orders = {"r0 0 0 99;r0 0 0 99;r3 0 0 19;", "r3 0 0 19;r0 0 0 99;r0 0 0 99;", "r0 0 0 99;r3 0 0 19;"};
        for (String rooms : orders) {
            QuietByYard yard = told("g4 1;f20;" + rooms);
            due("beside it, " + rooms, yard.way(0, 2, 20), 2);
            due("in it, " + rooms, yard.way(0, 3, 20), NONE);
        }
    }

    private static void wayWithoutHours() {
        Due.sentence("(its HOURS are not asked)");
        QuietByYard yard = told("g2 1;f5;n0 99 0 23;r1 5 5 20;");
        due("not in its hours, still heard", yard.way(0, 1, 21), NONE);
        due("other noises are not asked", yard.way(0, 1, 20), 1);
    }

    private static void wayUnderSheets() {
        Due.sentence("no ROOM hears him (SHEETS as they are NOW)");
        QuietByYard yard = told("g2 1;f5;n0 99 0 23;r1 0 0 20;s10 1 1 1;");
        yard.lay(0, 1);
        due("35 is 20 behind the sheet", yard.way(0, 0, 35), 0);
        due("36 is 21", yard.way(0, 0, 36), NONE);
        due("within it 20", yard.way(1, 1, 20), 0);
        due("within it 21", yard.way(1, 1, 21), NONE);
        yard.hour();
        yard.hour();
        due("worn by 16: 34", yard.way(0, 0, 34), 0);
        due("worn by 16: 35", yard.way(0, 0, 35), NONE);
    }

    private static void wayNone() {
        Due.sentence("WAY; NONE");
        QuietByYard yard = told("g3 3;f20;r1 0 0 19;r4 0 0 19;r7 0 0 19;");
        due("a wall of rooms", yard.way(3, 5, 20), NONE);
        due("along it", yard.way(0, 6, 20), 2);
        due("quietly through it", yard.way(3, 5, 19), 2);
    }

    private static void wayRefused() {
        Due.sentence("a NOISE of n (1 .. 99). BAD");
        QuietByYard yard = told("g2 2;");
        due("n 0", yard.way(0, 0, 0), BAD);
        due("n 100", yard.way(0, 0, 100), BAD);
        due("n -1", yard.way(0, 0, -1), BAD);
        due("from 4", yard.way(4, 0, 1), BAD);
        due("from -1", yard.way(-1, 0, 1), BAD);
        due("to 4", yard.way(0, 4, 1), BAD);
        due("to -1", yard.way(0, -1, 1), BAD);
        due("the last of each", yard.way(3, 3, 99), 0);
    }

    // ---- taps, shams

    private static void tapsFourAtMost() {
        Due.sentence("TAPS (4 at most): how many. FULL");
        QuietByYard yard = told("g1 1;s1 1 1 1;");
        yard.lay(0, 0);
        due("none", yard.count(7), 0);
        for (int n = 1; n <= 4; n++) {
            due("tap", yard.tap(0, 5, 0, 5), n);
            due("count", yard.count(7), n);
        }
        due("the fifth", yard.tap(0, 5, 0, 4), FULL);
        due("four stay", yard.count(7), 4);
        due("the fifth did not count", yard.mayBe(), 1);
        due("forgotten", yard.forget(1), 4);
        due("there is room again", yard.tap(0, 5, 0, 4), 1);
        due("it counts", yard.mayBe(), 0);
    }

    private static void tapNumbers() {
        Due.sentence("STRENGTH n (1 .. 99), LOUD by v (0 .. 99). BAD");
        QuietByYard yard = told("g4 3;");
        due("n 0", yard.tap(0, 0, 0, 0), BAD);
        due("n 100", yard.tap(0, 100, 0, 0), BAD);
        due("v -1", yard.tap(0, 1, 0, -1), BAD);
        due("v 100", yard.tap(0, 1, 0, 100), BAD);
        due("from -1", yard.tap(-1, 1, 0, 0), BAD);
        due("from 12", yard.tap(12, 1, 0, 0), BAD);
        due("to -1", yard.tap(0, 1, -1, 0), BAD);
        due("to 12", yard.tap(0, 1, 12, 0), BAD);
        due("least", yard.tap(0, 1, 0, 0), 1);
        due("greatest", yard.tap(11, 99, 11, 99), 2);
        due("louder than it is", yard.tap(0, 1, 0, 99), 3);
        yard.tap(0, 1, 0, 0);
        due("BAD ahead of FULL: n", yard.tap(0, 0, 0, 0), BAD);
        due("BAD ahead of FULL: v", yard.tap(0, 1, 0, 100), BAD);
        due("BAD ahead of FULL: to", yard.tap(0, 1, 12, 0), BAD);
        due("FULL", yard.tap(0, 1, 0, 0), FULL);
    }

    private static void noTaps() {
        Due.sentence("MAY BE, if there are no TAPS");
        QuietByYard yard = told("g4 1;s1 1 1 1;s1 1 1 1;s1 1 1 1;s1 1 1 1;");
        due("none laid", yard.mayBe(), 0);
        yard.lay(3, 0);
        due("3", yard.mayBe(), 8);
        yard.lay(0, 1);
        due("0 and 3", yard.mayBe(), 9);
        yard.lay(1, 2);
        yard.lay(2, 3);
        due("all", yard.mayBe(), 15);
        due("no sheets", told("").mayBe(), 0);
    }

    private static void justOneSham() {
        Due.sentence("SHAM: just one SHEET is");
        QuietByYard yard = told("g4 1;f5;s10 1 1 1;s8 1 1 1;");
        yard.lay(0, 1);
        yard.lay(1, 3);
        yard.tap(0, 50, 1, 45);
        due("0 takes nothing", yard.mayBe(), 1);
        yard.tap(2, 50, 3, 45);
        due("both take nothing: not just one", yard.mayBe(), 0);
        yard.forget(1);
        yard.tap(0, 50, 1, 35);
        due("0 is none: 1", yard.mayBe(), 2);
        yard.tap(2, 50, 3, 37);
        due("neither is: but one must be", yard.mayBe(), 0);
        yard.forget(1);
        yard.tap(0, 50, 1, 35);
        yard.tap(2, 50, 3, 45);
        due("1 takes nothing", yard.mayBe(), 2);
    }

    private static void shamThatIsLaid() {
        Due.sentence("SHAM: one SHEET that is LAID");
        QuietByYard yard = told("g2 1;f5;s10 1 1 1;s8 1 1 1;");
        yard.tap(0, 50, 1, 45);
        due("so without any: none", yard.mayBe(), 0);
        yard.lay(1, 0);
        due("1 on 0", yard.mayBe(), 2);
        yard.lift(1);
        yard.lay(0, 1);
        due("0 on 1", yard.mayBe(), 1);
    }

    private static void shamIsThin() {
        Due.sentence("SHAM: it is THICK NOW 0 (and lies there)");
        int[] loud = {45, 49, 41, 44, 46};
        int[] sheets = {1, 2, 0, 0, 0};
        for (int i = 0; i < loud.length; i++) {
            QuietByYard yard = told("g2 1;f1;s10 1 1 1;s8 1 1 1;");
            yard.lay(0, 0);
            yard.lay(1, 1);
            yard.tap(0, 50, 1, loud[i]);
            due("50 was " + loud[i] + " on the other sheet", yard.mayBe(), sheets[i]);
        }
    }

    private static void shamWornThrough() {
        Due.sentence("SHAM: of whatever THICK NOW");
        QuietByYard yard = told("g2 1;f1;s0 1 1 1;");
        yard.lay(0, 1);
        yard.tap(0, 50, 1, 49);
        due("0 thick as it is told", yard.mayBe(), 1);
        yard = told("g3 1;f1;n0 99 0 23;n2 99 0 23;s3 1 1 1;s1 1 1 1;");
        yard.lay(0, 0);
        yard.lay(1, 2);
        yard.tap(1, 50, 0, 46);
        due("3 of sheet 0: sheet 1", yard.mayBe(), 2);
        yard.hour();
        yard.hour();
        due("2 now: neither", yard.mayBe(), 0);
        yard.forget(1);
        yard.tap(1, 50, 0, 47);
        due("2 now: sheet 1, worn through", yard.mayBe(), 2);
    }

    private static void tapsByV() {
        Due.sentence("was LOUD by v at another one (0 at least)");
        QuietByYard yard = told("g2 1;f5;s10 1 1 1;");
        yard.lay(0, 1);
        int[] strengths = {50, 50, 50, 5, 5, 6, 6, 1};
        int[] louds = {45, 44, 46, 0, 1, 0, 1, 0};
        int[] sheets = {1, 0, 0, 1, 0, 0, 1, 1};
        for (int i = 0; i < strengths.length; i++) {
            yard.tap(0, strengths[i], 1, louds[i]);
            due(strengths[i] + " was " + louds[i], yard.mayBe(), sheets[i]);
            yard.forget(1);
        }
        yard.tap(1, 99, 1, 99);
        due("where it is", yard.mayBe(), 1);
        yard.tap(1, 99, 1, 98);
        due("less where it is", yard.mayBe(), 0);
    }

    private static void allTapsSo() {
        Due.sentence("SHEETS which, being the one, make all TAPS so");
        QuietByYard yard = told("g4 1;f5;n0 99 0 23;s10 1 1 1;s8 1 1 1;");
        yard.lay(0, 1);
        yard.lay(1, 3);
        yard.tap(0, 1, 3, 0);
        due("either", yard.mayBe(), 3);
        yard.tap(0, 50, 1, 45);
        due("0", yard.mayBe(), 1);
        yard.tap(0, 50, 3, 27);
        due("0 still: 50 less 15 less 8", yard.mayBe(), 1);
        yard.tap(2, 50, 3, 36);
        due("none, by the fourth", yard.mayBe(), 0);
    }

    private static void tapsOneWay() {
        Due.sentence("a NOISE at a CELL was LOUD at another one");
        QuietByYard yard = told("g3 1;f5;s10 1 1 1;s10 1 1 1;");
        yard.lay(0, 0);
        yard.lay(1, 2);
        yard.tap(0, 50, 2, 40);
        due("onto 1", yard.mayBe(), 2);
        yard.forget(1);
        yard.tap(2, 50, 0, 40);
        due("onto 0", yard.mayBe(), 1);
    }

    // ---- odds

    private static void dueOdds(QuietByYard yard, int r, int p, int upper, int lower) {
        due("odds of room " + r + " by " + p + ", upper", yard.odds(r, p, 0), upper);
        due("odds of room " + r + " by " + p + ", lower", yard.odds(r, p, 1), lower);
    }

    private static void oddsOfEachForItself() {
        Due.sentence("if each NOISE sounds by p (0 .. 10) of 10, each for itself");
        QuietByYard yard = told("g2 1;f5;n0 60 0 0;n0 50 0 0;n0 40 0 0;r1 0 0 54;r1 0 0 44;r1 0 0 34;");
        dueOdds(yard, 0, 3, 7, 10);
        dueOdds(yard, 1, 3, 49, 100);
        dueOdds(yard, 2, 3, 343, 1000);
        dueOdds(yard, 0, 9, 1, 10);
        dueOdds(yard, 1, 9, 1, 100);
        dueOdds(yard, 2, 9, 1, 1000);
        dueOdds(yard, 2, 1, 729, 1000);
        dueOdds(yard, 0, 10, 0, 1);
        dueOdds(yard, 2, 10, 0, 1);
        dueOdds(yard, 0, 0, 1, 1);
        dueOdds(yard, 2, 0, 1, 1);
    }

    private static void oddsOfNothing() {
        Due.sentence("ODDS, if no NOISE can be too loud");
        dueOdds(told("r0 0 23 0;"), 0, 10, 1, 1);
        dueOdds(told("r0 0 23 0;"), 0, 0, 1, 1);
        dueOdds(told("g1 1;n0 50 0 23;r0 0 23 50;"), 0, 10, 1, 1);
        dueOdds(told("g1 1;n0 50 0 23;r0 0 23 99;"), 0, 5, 1, 1);
    }

    private static void oddsInLeastTerms() {
        Due.sentence("ODDS: upper, lower number, in least terms");
        QuietByYard yard = told("g2 1;f5;n0 60 0 0;n0 50 0 0;n0 40 0 0;r1 0 0 54;r1 0 0 44;r1 0 0 34;");
        dueOdds(yard, 0, 2, 4, 5);
        dueOdds(yard, 1, 2, 16, 25);
        dueOdds(yard, 2, 2, 64, 125);
        dueOdds(yard, 0, 4, 3, 5);
        dueOdds(yard, 2, 4, 27, 125);
        dueOdds(yard, 0, 5, 1, 2);
        dueOdds(yard, 1, 5, 1, 4);
        dueOdds(yard, 2, 5, 1, 8);
        dueOdds(yard, 0, 6, 2, 5);
        dueOdds(yard, 1, 6, 4, 25);
        dueOdds(yard, 2, 8, 1, 125);
        dueOdds(yard, 1, 7, 9, 100);
    }

    private static void oddsByMost() {
        Due.sentence("ODDS that a ROOM hears no more than MOST");
        dueOdds(told("g2 1;f5;n0 60 0 0;r1 0 0 55;"), 0, 5, 1, 1);
        dueOdds(told("g2 1;f5;n0 60 0 0;r1 0 0 54;"), 0, 5, 1, 2);
        // Two that are each no more than MOST are together no louder.
        dueOdds(told("g2 1;f5;n0 60 0 0;n0 60 0 0;r1 0 0 55;"), 0, 5, 1, 1);
        QuietByYard yard = told("g2 1;f5;n0 60 0 0;s10 1 1 1;r1 0 0 45;r1 0 0 44;");
        yard.lay(0, 1);
        dueOdds(yard, 0, 5, 1, 1);
        dueOdds(yard, 1, 5, 1, 2);
    }

    private static void oddsWithoutHours() {
        Due.sentence("ODDS (no HOURS are asked)");
        dueOdds(told("g1 1;n0 60 5 5;n0 60 9 9;r0 20 20 0;"), 0, 5, 1, 4);
        dueOdds(told("g1 1;n0 60 5 5;n0 60 9 9;r0 2 2 0;"), 0, 5, 1, 4);
        dueOdds(told("g1 1;n0 60 5 5;n0 60 9 9;r0 9 9 0;"), 0, 5, 1, 4);
    }

    private static void oddsRefused() {
        Due.sentence("ODDS, p (0 .. 10). BAD");
        QuietByYard yard = told("g1 1;n0 60 0 0;r0 0 0 0;r0 0 0 0;");
        due("p 11", yard.odds(0, 11, 0), BAD);
        due("p -1", yard.odds(0, -1, 0), BAD);
        due("room 2", yard.odds(2, 5, 0), BAD);
        due("room -1", yard.odds(-1, 5, 0), BAD);
        due("what 2", yard.odds(0, 5, 2), BAD);
        due("what -1", yard.odds(0, 5, -1), BAD);
        due("no rooms", told("").odds(0, 5, 0), BAD);
        due("the last room", yard.odds(1, 5, 1), 2);
    }
}
