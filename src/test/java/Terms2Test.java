/**
 * Terms, part 2 (sheets, how loud it is, hours, what is undone), and what promises 6 and 8 to 15 say of
 * them: a test for each sentence that names an edge. Answers are worked out by hand.
 */
public final class Terms2Test {
    private static final int BAD = -1, STATE = -2, NONE = -9;
    private static final int CELLS = 12;

    private Terms2Test() {
    }

    public static void main(String[] args) {
        laid();
        worn();
        loud();
        hours();
        turnedAndUndone();
        Due.end();
    }

    private static void laid() {
        notLaidAtFirst();
        firstCell();
        allOnCells();
        tooGreatForTheHouse();
        noneOnAnother();
        asTheyAreTold();
        laidOnce();
        takenUp();
        laidBits();
    }

    private static void worn() {
        wornAtFirst();
        wornByTen();
        neverThinnerThanNothing();
        thicknessCounts();
    }

    private static void loud() {
        whereItIs();
        stepByStep();
        whatItComesTo();
        halfBesideAnother();
        halfOfThickNow();
        wornThroughLiesThere();
        theSameSheet();
        anyWay();
        aLongWay();
        nothingAtLeast();
        theGreatest();
        ofThatHour();
        loudRefused();
    }

    private static void hours() {
        byTenCut();
        onAnyOfItsCells();
        inThatHour();
        laidOnly();
        allAtOnce();
        nextHour();
        nextDay();
        lastDay();
    }

    private static void turnedAndUndone() {
        turned();
        turnedRefused();
        undoneDeeds();
        undoneHourOverMidnight();
        otherCallsAreNoDeeds();
        refusedAreNoDeeds();
        tenAreKnown();
        tenOfManyKinds();
        undoneAndDoneAgain();
        undoneIsNoDeed();
        noneToUndo();
    }

    private static void due(String call, long got, long want) {
        Due.due(call, got, want);
    }

    private static QuietByYard told(String letters) {
        return Due.told(letters);
    }

    private static void pass(QuietByYard yard, int hours) {
        for (int i = 0; i < hours; i++) {
            yard.hour();
        }
    }

    /** What lay() says for each cell; what is laid is taken up again. */
    private static void layEverywhere(String letters, int s, String where) {
        QuietByYard yard = told(letters);
        for (int c = 0; c < where.length(); c++) {
            boolean fits = where.charAt(c) == '+';
            due(letters + " lay " + s + " on " + c, yard.lay(s, c), fits ? 1 : STATE);
            due(letters + " then it is on", yard.sheet(s, 4), fits ? c : NONE);
            due(letters + " lift " + s, yard.lift(s), fits ? c : STATE);
        }
        due(letters + " lay beyond the cells", yard.lay(s, where.length()), BAD);
    }

    // ---- where sheets lie

    private static void notLaidAtFirst() {
        Due.sentence("or it is not LAID (at first)");
        QuietByYard yard = told("g4 3;s1 1 1 1;s2 2 2 2;s3 3 3 3;s4 1 1 4;");
        for (int s = 0; s < 4; s++) {
            due("where is " + s, yard.sheet(s, 4), NONE);
        }
        for (int c = 0; c < CELLS; c++) {
            due("onCell " + c, yard.onCell(c), NONE);
        }
        due("bits", yard.now(2), 0);
        due("nothing to take up", yard.lift(0), STATE);
        due("no gain", yard.gain(0), -1000000);
    }

    private static void firstCell() {
        Due.sentence("LAID with its first CELL (the least number) on a CELL");
        QuietByYard yard = told("g4 3;s9 2 2 1;s9 1 1 1;");
        due("lay", yard.lay(0, 5), 1);
        due("where", yard.sheet(0, 4), 5);
        due("lay another", yard.lay(1, 0), 2);
        int[] on = {1, NONE, NONE, NONE, NONE, 0, 0, NONE, NONE, 0, 0, NONE};
        for (int c = 0; c < CELLS; c++) {
            due("onCell " + c, yard.onCell(c), on[c]);
        }
        due("onCell 12", yard.onCell(12), BAD);
        due("onCell -1", yard.onCell(-1), BAD);
    }

    private static void allOnCells() {
        Due.sentence("all of it on CELLS");
        layEverywhere("g4 3;s1 1 1 1;", 0, "++++++++++++");
        layEverywhere("g4 3;s1 2 1 1;", 0, "+++-+++-+++-");
        layEverywhere("g4 3;s1 3 1 1;", 0, "++--++--++--");
        layEverywhere("g4 3;s1 1 2 1;", 0, "++++++++----");
        layEverywhere("g4 3;s1 1 3 1;", 0, "++++--------");
        layEverywhere("g4 3;s1 2 2 1;", 0, "+++-+++-----");
        layEverywhere("g4 3;s1 3 3 1;", 0, "++----------");
        layEverywhere("g3 2;s1 3 2 1;", 0, "+-----");
        layEverywhere("s1 2 1 1;", 0, "++-++-");
        layEverywhere("g3 3;s1 3 3 1;", 0, "+--------");
        layEverywhere("g1 3;s1 1 2 1;", 0, "++-");
        layEverywhere("g1 1;s1 1 1 1;", 0, "+");
    }

    private static void tooGreatForTheHouse() {
        Due.sentence("all of it on CELLS, however small the house");
        layEverywhere("g2 3;s1 3 1 1;", 0, "------");
        layEverywhere("g4 2;s1 1 3 1;", 0, "--------");
        layEverywhere("g1 1;s1 2 1 1;", 0, "-");
        layEverywhere("g1 1;s1 1 2 1;", 0, "-");
        layEverywhere("g1 1;s1 3 3 1;", 0, "-");
    }

    private static void noneOnAnother() {
        Due.sentence("none on another SHEET");
        QuietByYard yard = told("g4 3;s1 2 2 1;s1 2 2 1;s1 1 1 1;s1 1 3 1;");
        yard.lay(0, 5);
        for (int c = 0; c < CELLS; c++) {
            due("two by two beside 5, 6, 9, 10: on " + c, yard.lay(1, c), STATE);
        }
        due("one cell of three would be on it", yard.lay(3, 2), STATE);
        due("beside it is free", yard.lay(3, 3), 2);
        due("on its last cell", yard.lay(2, 10), STATE);
        due("on the other's last cell", yard.lay(2, 11), STATE);
        due("on a free cell", yard.lay(2, 8), 3);
        yard.lift(0);
        due("where it was is free", yard.lay(1, 5), 3);
    }

    private static void asTheyAreTold() {
        Due.sentence("SHEETS lie as they are told (w along the row)");
        layEverywhere("g3 1;s1 3 1 1;", 0, "+--");
        layEverywhere("g3 1;s1 1 3 1;", 0, "---");
        layEverywhere("g1 3;s1 3 1 1;", 0, "---");
        layEverywhere("g1 3;s1 1 3 1;", 0, "+--");
        QuietByYard yard = told("g3 3;s1 2 1 1;s1 1 2 1;");
        yard.lay(0, 0);
        yard.lay(1, 5);
        int[] on = {0, 0, NONE, NONE, NONE, 1, NONE, NONE, 1};
        for (int c = 0; c < on.length; c++) {
            due("onCell " + c, yard.onCell(c), on[c]);
        }
    }

    private static void laidOnce() {
        Due.sentence("lay(): how many are. BAD; STATE: it is LAID, or it cannot lie there");
        QuietByYard yard = told("g4 1;s1 1 1 1;s1 1 1 1;s1 1 1 1;s1 1 1 1;");
        due("one", yard.lay(3, 0), 1);
        due("it is laid: the same cell", yard.lay(3, 0), STATE);
        due("it is laid: a free cell", yard.lay(3, 1), STATE);
        due("two", yard.lay(0, 1), 2);
        due("three", yard.lay(1, 2), 3);
        due("four", yard.lay(2, 3), 4);
        due("no sheet 4", yard.lay(4, 0), BAD);
        due("no sheet -1", yard.lay(-1, 0), BAD);
        due("no cell 4, though it is laid", yard.lay(0, 4), BAD);
        due("no cell -1, though it is laid", yard.lay(0, -1), BAD);
        due("none told", told("").lay(0, 0), BAD);
    }

    private static void takenUp() {
        Due.sentence("lift(): where it was. BAD; STATE: it is not LAID");
        QuietByYard yard = told("g4 3;s1 1 1 1;s1 1 1 1;");
        yard.lay(0, 0);
        yard.lay(1, 11);
        due("from the first cell", yard.lift(0), 0);
        due("again", yard.lift(0), STATE);
        due("from the last cell", yard.lift(1), 11);
        due("again", yard.lift(1), STATE);
        due("no sheet 2", yard.lift(2), BAD);
        due("no sheet -1", yard.lift(-1), BAD);
        due("none told", told("").lift(0), BAD);
        due("laid again", yard.lay(1, 0), 1);
    }

    private static void laidBits() {
        Due.sentence("SHEETS that are LAID (bits)");
        QuietByYard yard = told("g4 1;s1 1 1 1;s1 1 1 1;s1 1 1 1;s1 1 1 1;");
        due("none", yard.now(2), 0);
        yard.lay(3, 0);
        due("3", yard.now(2), 8);
        yard.lay(0, 1);
        due("0 and 3", yard.now(2), 9);
        yard.lay(1, 2);
        yard.lay(2, 3);
        due("all", yard.now(2), 15);
        yard.lift(3);
        due("all but 3", yard.now(2), 7);
    }

    // ---- how thick they are

    private static void wornAtFirst() {
        Due.sentence("WORN is 0 at first");
        QuietByYard yard = told("g1 1;n0 99 0 23;s9 1 1 1;s30 1 1 1;");
        due("0", yard.sheet(0, 5), 0);
        due("1", yard.sheet(1, 5), 0);
        due("thick now", yard.sheet(1, 6), 30);
        yard.lay(0, 0);
        due("laid", yard.sheet(0, 5), 0);
        pass(yard, 2);
        due("worn", yard.sheet(0, 5), 18);
        Due.type(yard, "s9 1 1 1;s30 1 1 1;");
        yard.house();
        due("told anew", yard.sheet(0, 5), 0);
    }

    private static void wornByTen() {
        Due.sentence("THICK NOW: THICK less WORN by 10 (cut)");
        QuietByYard yard = told("g1 1;n0 30 0 23;s9 1 1 1;");
        yard.lay(0, 0);
        int[] thick = {9, 9, 9, 9, 8, 8, 8, 7, 7, 7, 6};
        for (int hours = 0; hours < thick.length; hours++) {
            due("worn", yard.sheet(0, 5), 3 * hours);
            due("thick now, worn by " + 3 * hours, yard.sheet(0, 6), thick[hours]);
            yard.hour();
        }
        yard = told("g1 1;n0 50 0 23;s9 1 1 1;");
        yard.lay(0, 0);
        pass(yard, 2);
        due("worn by just 10", yard.sheet(0, 6), 8);
        pass(yard, 2);
        due("worn by just 20", yard.sheet(0, 6), 7);
        yard = told("g1 1;n0 99 0 23;s9 1 1 1;");
        yard.lay(0, 0);
        yard.hour();
        due("worn by just 9", yard.sheet(0, 6), 9);
    }

    private static void neverThinnerThanNothing() {
        Due.sentence("THICK NOW 0 at least");
        QuietByYard yard = told("g2 1;f1;n0 99 0 23;s1 1 1 1;s0 1 1 1;");
        yard.lay(0, 0);
        yard.lay(1, 1);
        due("0 of 0", yard.sheet(1, 6), 0);
        pass(yard, 1);
        due("1 less 0", yard.sheet(0, 6), 1);
        pass(yard, 1);
        due("1 less 1", yard.sheet(0, 6), 0);
        pass(yard, 1);
        due("1 less 2", yard.sheet(0, 6), 0);
        due("0 less 2", yard.sheet(1, 6), 0);
        pass(yard, 20);
        due("worn far beyond", yard.sheet(0, 5), 207);
        due("0 still", yard.sheet(0, 6), 0);
        due("and it makes nothing louder", yard.loud(1, 0), 98);
    }

    private static void thicknessCounts() {
        Due.sentence("Of a SHEET: 0 THICK .. 6 THICK NOW. BAD");
        QuietByYard yard = told("g3 3;s30 3 2 9;s0 1 3 1;");
        int[] wide = {30, 3, 2, 9, NONE, 0, 30};
        int[] thin = {0, 1, 3, 1, NONE, 0, 0};
        for (int what = 0; what < wide.length; what++) {
            due("sheet 0 " + what, yard.sheet(0, what), wide[what]);
            due("sheet 1 " + what, yard.sheet(1, what), thin[what]);
        }
        due("sheet 0 7", yard.sheet(0, 7), BAD);
        due("sheet 0 -1", yard.sheet(0, -1), BAD);
        due("sheet 2 0", yard.sheet(2, 0), BAD);
        due("sheet -1 0", yard.sheet(-1, 0), BAD);
    }

    // ---- how loud it is

    private static void whereItIs() {
        Due.sentence("its STRENGTH where it is");
        QuietByYard yard = told("g2 1;f20;n0 60 0 0;s30 1 1 1;");
        due("bare", yard.loud(0, 0), 60);
        yard.lay(0, 0);
        due("under a sheet", yard.loud(0, 0), 60);
    }

    private static void stepByStep() {
        Due.sentence("to one NEXT to it comes FALL less");
        QuietByYard yard = told("g4 1;f7;n0 60 0 0;");
        int[] loud = {60, 53, 46, 39};
        for (int c = 0; c < loud.length; c++) {
            due("loud at " + c, yard.loud(c, 0), loud[c]);
        }
    }

    private static void whatItComesTo() {
        Due.sentence("less by what lies on the CELL that it comes to");
        QuietByYard yard = told("g3 1;f1;n0 60 0 0;n1 70 1 1;s10 1 1 1;");
        yard.lay(0, 1);
        due("onto it", yard.loud(1, 0), 49);
        due("from it nothing more is taken", yard.loud(2, 0), 48);
        due("from it, either way", yard.loud(0, 1), 69);
        due("from it, either way", yard.loud(2, 1), 69);
    }

    private static void halfBesideAnother() {
        Due.sentence("half of that (cut), if another SHEET lies on the CELL that it comes from");
        int[] thick = {0, 1, 2, 7, 8, 29, 30};
        int[] taken = {0, 0, 1, 3, 4, 14, 15};
        for (int i = 0; i < thick.length; i++) {
            QuietByYard yard = told("g2 1;f1;n0 60 0 0;s5 1 1 1;s" + thick[i] + " 1 1 1;");
            yard.lay(1, 1);
            due("all of " + thick[i], yard.loud(1, 0), 59 - thick[i]);
            yard.lay(0, 0);
            due("half of " + thick[i], yard.loud(1, 0), 59 - taken[i]);
            yard.lift(0);
            due("all of it again", yard.loud(1, 0), 59 - thick[i]);
        }
    }

    private static void halfOfThickNow() {
        Due.sentence("half of THICK NOW (cut)");
        QuietByYard yard = told("g2 1;f20;n1 30 0 23;s0 1 1 1;s9 1 1 1;");
        yard.lay(0, 0);
        yard.lay(1, 1);
        pass(yard, 4);
        due("8 now", yard.sheet(1, 6), 8);
        due("half of 8 and 20: a noise of 25 is 1", yard.hired(0, 1, 1), 25);
        pass(yard, 3);
        due("7 now: half is 3", yard.hired(0, 1, 1), 24);
    }

    private static void wornThroughLiesThere() {
        Due.sentence("another SHEET lies on the CELL, of whatever THICK NOW");
        QuietByYard yard = told("g2 1;f1;n0 99 0 23;s1 1 1 1;s30 1 1 1;");
        yard.lay(0, 0);
        yard.lay(1, 1);
        pass(yard, 2);
        due("worn through", yard.sheet(0, 6), 0);
        due("99 less 1 less 15, worn by 8 twice: 29, half is 14", yard.sheet(1, 6), 29);
        due("it leaks still", yard.loud(1, 0), 84);
    }

    private static void theSameSheet() {
        Due.sentence("half, if ANOTHER SHEET lies there: not the same one");
        QuietByYard yard = told("g3 1;f1;n0 90 0 0;s7 2 1 1;s7 3 1 1;");
        yard.lay(0, 1);
        due("onto it", yard.loud(1, 0), 82);
        due("within it", yard.loud(2, 0), 74);
        yard.undo();
        yard.lay(1, 0);
        due("from its first cell", yard.loud(1, 0), 82);
        due("to its last", yard.loud(2, 0), 74);
    }

    private static void anyWay() {
        Due.sentence("the most that comes any way");
        int[] thick = {0, 1, 2, 3, 30};
        int[] loud = {58, 57, 56, 56, 56};
        for (int i = 0; i < thick.length; i++) {
            QuietByYard yard = told("g3 2;f1;n0 60 0 0;s" + thick[i] + " 1 1 1;");
            yard.lay(0, 1);
            due("behind a sheet of " + thick[i], yard.loud(2, 0), loud[i]);
            due("on it", yard.loud(1, 0), 59 - thick[i]);
        }
    }

    private static void aLongWay() {
        Due.sentence("the most that comes any way, however long");
        QuietByYard yard = told("g4 3;f1;n0 60 0 0;n8 70 1 1;s30 3 1 1;");
        yard.lay(0, 4);
        int[] loud = {60, 59, 58, 57, 29, 28, 27, 56, 52, 53, 54, 55};
        for (int c = 0; c < CELLS; c++) {
            due("around the sheet: " + c, yard.loud(c, 0), loud[c]);
        }
        due("and from the other end", yard.loud(0, 1), 62);
        yard = told("g3 3;f1;n2 60 0 0;s30 1 2 1;s30 1 2 1;");
        yard.lay(0, 1);
        yard.lay(1, 3);
        due("2 5 8 7", yard.loud(7, 0), 57);
        due("2 5 8 7 6", yard.loud(6, 0), 26);
        due("behind both", yard.loud(0, 0), 28);
        yard = told("g3 3;f1;n6 60 0 0;n8 60 1 1;s30 1 2 1;");
        yard.lay(0, 4);
        due("up, along and down: 6 3 0 1 2 5 8", yard.loud(8, 0), 54);
        due("and back", yard.loud(6, 1), 54);
        yard = told("g3 3;f1;n0 60 0 0;n2 60 1 1;s30 1 2 1;");
        yard.lay(0, 1);
        due("down, along and up: 0 3 6 7 8 5 2", yard.loud(2, 0), 54);
        due("and back", yard.loud(0, 1), 54);
        yard = told("g3 3;f1;n0 60 0 0;n6 60 1 1;s30 2 1 1;");
        yard.lay(0, 3);
        due("along, down and back: 0 1 2 5 8 7 6", yard.loud(6, 0), 54);
        due("and back", yard.loud(0, 1), 54);
    }

    private static void nothingAtLeast() {
        Due.sentence("LOUD 0 at least");
        due("just 0", told("g2 1;f20;n0 20 0 0;").loud(1, 0), 0);
        due("1", told("g2 1;f20;n0 21 0 0;").loud(1, 0), 1);
        due("never less", told("g2 1;f20;n0 1 0 0;").loud(1, 0), 0);
        due("far away", told("g4 3;f20;n0 99 0 0;").loud(11, 0), 0);
        QuietByYard yard = told("g2 1;f1;n0 11 0 0;s10 1 1 1;");
        yard.lay(0, 1);
        due("by a sheet, just 0", yard.loud(1, 0), 0);
    }

    private static void theGreatest() {
        Due.sentence("LOUD in an HOUR: the greatest by all NOISES");
        QuietByYard yard = told("g3 1;f5;n0 60 0 0;n0 60 0 0;n2 58 0 0;");
        due("no sum", yard.loud(0, 0), 60);
        due("the first is the greatest", yard.loud(1, 0), 55);
        due("the last is", yard.loud(2, 0), 58);
        due("no noises", told("").loud(0, 0), 0);
    }

    private static void ofThatHour() {
        Due.sentence("by all NOISES of that HOUR");
        QuietByYard yard = told("g1 1;n0 50 3 5;n0 40 5 7;n0 30 0 23;");
        int[] loud = {30, 30, 30, 50, 50, 50, 40, 40, 30};
        for (int hour = 0; hour < loud.length; hour++) {
            due("loud in " + hour, yard.loud(0, hour), loud[hour]);
        }
        due("loud in 23", yard.loud(0, 23), 30);
    }

    private static void loudRefused() {
        Due.sentence("LOUD at a CELL in an HOUR. BAD");
        QuietByYard yard = told("n0 50 0 23;");
        due("hour 24", yard.loud(0, 24), BAD);
        due("hour -1", yard.loud(0, -1), BAD);
        due("cell 6", yard.loud(6, 0), BAD);
        due("cell -1", yard.loud(-1, 0), BAD);
        due("the last cell, the last hour", yard.loud(5, 23), 35);
    }

    // ---- hours

    private static void byTenCut() {
        Due.sentence("WORN more by what it is LOUD, by 10 (cut)");
        int[] strength = {1, 9, 10, 19, 20, 89, 90, 99};
        int[] worn = {0, 0, 1, 1, 2, 8, 9, 9};
        for (int i = 0; i < strength.length; i++) {
            QuietByYard yard = told("g1 1;n0 " + strength[i] + " 0 23;s5 1 1 1;");
            yard.lay(0, 0);
            due("hour", yard.hour(), 1);
            due("by " + strength[i], yard.sheet(0, 5), worn[i]);
            // Cut in each hour: 9 and 9 are not 18.
            yard.hour();
            due("twice by " + strength[i], yard.sheet(0, 5), 2 * worn[i]);
        }
    }

    private static void onAnyOfItsCells() {
        Due.sentence("by the greatest that it is LOUD on any of its CELLS");
        QuietByYard yard = told("g3 3;f20;n8 50 0 23;s0 3 3 1;");
        yard.lay(0, 0);
        yard.hour();
        due("on its last cell", yard.sheet(0, 5), 5);
        yard = told("g3 3;f20;n0 50 0 23;s0 3 3 1;");
        yard.lay(0, 0);
        yard.hour();
        due("on its first cell", yard.sheet(0, 5), 5);
        yard = told("g3 1;f20;n0 60 0 23;s10 2 1 1;");
        yard.lay(0, 1);
        yard.hour();
        due("beside it: 30", yard.sheet(0, 5), 3);
    }

    private static void inThatHour() {
        Due.sentence("in that HOUR (the one that goes by)");
        QuietByYard yard = told("g1 1;n0 50 1 1;s5 1 1 1;");
        yard.lay(0, 0);
        int[] worn = {0, 5, 5, 5};
        for (int hour = 0; hour < worn.length; hour++) {
            yard.hour();
            due("behind hour " + hour, yard.sheet(0, 5), worn[hour]);
        }
        pass(yard, 21);
        due("a day later, behind hour 0", yard.sheet(0, 5), 5);
        yard.hour();
        due("behind hour 1", yard.sheet(0, 5), 10);
        yard = told("g1 1;n0 50 23 23;s5 1 1 1;");
        yard.lay(0, 0);
        pass(yard, 23);
        due("behind hour 22", yard.sheet(0, 5), 0);
        yard.hour();
        due("behind hour 23", yard.sheet(0, 5), 5);
    }

    private static void laidOnly() {
        Due.sentence("each SHEET that is LAID has WORN more");
        QuietByYard yard = told("g2 1;f1;n0 50 0 23;s5 1 1 1;s5 1 1 1;s5 1 1 1;");
        yard.lay(1, 0);
        yard.lay(2, 1);
        yard.hour();
        due("not laid", yard.sheet(0, 5), 0);
        due("laid", yard.sheet(1, 5), 5);
        due("laid: 50 less 1 less 2", yard.sheet(2, 5), 4);
        yard.lift(1);
        yard.hour();
        due("taken up: as it was", yard.sheet(1, 5), 5);
        due("bare from there: 50 less 1 less 5", yard.sheet(2, 5), 8);
    }

    /** In the second hour sheet 0 wears through; sheet 1 hears that hour through it as it was ahead. */
    private static void allAtOnce() {
        Due.sentence("each SHEET has WORN more (none hears of the others' WORN in the same HOUR)");
        QuietByYard yard = told("g3 1;f1;n0 86 0 23;s1 1 1 1;s9 1 1 1;");
        yard.lay(0, 1);
        yard.lay(1, 2);
        yard.hour();
        due("84 by 10", yard.sheet(0, 5), 8);
        due("79 by 10", yard.sheet(1, 5), 7);
        yard.hour();
        due("worn through", yard.sheet(0, 6), 0);
        due("79 again, not 80", yard.sheet(1, 5), 14);
        yard.hour();
        due("80 now", yard.sheet(1, 5), 22);
    }

    private static void nextHour() {
        Due.sentence("the HOUR is the next (0 at first; behind 23 it is 0)");
        QuietByYard yard = new QuietByYard();
        due("at first", yard.now(1), 0);
        for (int hour = 1; hour <= 23; hour++) {
            due("hour()", yard.hour(), hour);
            due("now", yard.now(1), hour);
        }
        due("behind 23", yard.hour(), 0);
        due("now", yard.now(1), 0);
        due("then", yard.hour(), 1);
    }

    private static void nextDay() {
        Due.sentence("the DAY 1 more");
        QuietByYard yard = new QuietByYard();
        due("at first", yard.now(0), 0);
        pass(yard, 23);
        due("hour 23 of day 0", yard.now(0), 0);
        yard.hour();
        due("behind it", yard.now(0), 1);
        pass(yard, 23);
        due("hour 23 of day 1", yard.now(0), 1);
        yard.hour();
        due("behind it", yard.now(0), 2);
        pass(yard, 400);
        due("448 hours", yard.now(0) * 100 + yard.now(1), 1816);
    }

    /** So many calls are more than are promised of an object; still the document names this edge. */
    private static void lastDay() {
        Due.sentence("DAY 99 at most; hour(): STATE: it is DAY 99");
        QuietByYard yard = told("g1 1;n0 99 0 23;s0 1 1 1;");
        yard.lay(0, 0);
        pass(yard, 99 * 24 - 1);
        due("hour 23 of day 98", yard.now(0) * 100 + yard.now(1), 9823);
        due("the last hour that goes by", yard.hour(), 0);
        due("day 99", yard.now(0) * 100 + yard.now(1), 9900);
        int worn = yard.sheet(0, 5);
        due("hour() of day 99", yard.hour(), STATE);
        due("still its hour 0", yard.now(0) * 100 + yard.now(1), 9900);
        due("nothing has worn", yard.sheet(0, 5), worn);
        due("undone", yard.undo(), 9);
        due("day 98", yard.now(0) * 100 + yard.now(1), 9823);
        due("again", yard.hour(), 0);
    }

    // ---- turned, undone

    private static void turned() {
        Due.sentence("TURNED: a SHEET has WORN half (cut)");
        QuietByYard yard = told("g2 1;n0 99 0 23;n1 99 0 23;s9 1 1 1;s9 1 1 1;");
        due("0", yard.turn(0), 0);
        yard.lay(0, 0);
        yard.lay(1, 1);
        pass(yard, 3);
        int[] halves = {13, 6, 3, 1, 0, 0};
        for (int half : halves) {
            due("turn", yard.turn(0), half);
            due("worn", yard.sheet(0, 5), half);
        }
        due("the other as it was", yard.sheet(1, 5), 27);
        yard.lift(1);
        due("not laid: turned, too", yard.turn(1), 13);
        due("8 of 9 now", yard.sheet(1, 6), 8);
    }

    private static void turnedRefused() {
        Due.sentence("turn(): BAD");
        QuietByYard yard = told("s9 1 1 1;");
        due("no sheet 1", yard.turn(1), BAD);
        due("no sheet -1", yard.turn(-1), BAD);
        due("none told", told("").turn(0), BAD);
    }

    private static void undoneDeeds() {
        Due.sentence("UNDONE: the latest lay(), lift(), turn(), hour()");
        QuietByYard yard = told("g2 1;f1;n0 90 0 23;s9 1 1 1;s9 1 1 1;");
        yard.lay(0, 0);
        yard.lay(1, 1);
        yard.hour();
        due("worn by 85 less 1 less 4", yard.sheet(1, 5), 8);
        yard.turn(1);
        yard.lift(0);
        due("five", yard.now(3), 5);
        due("lift", yard.undo(), 4);
        due("it lies again", yard.sheet(0, 4), 0);
        due("turn", yard.undo(), 3);
        due("worn again", yard.sheet(1, 5), 8);
        due("hour", yard.undo(), 2);
        due("neither is worn", yard.sheet(0, 5) + yard.sheet(1, 5), 0);
        due("hour 0", yard.now(1), 0);
        due("lay", yard.undo(), 1);
        due("1 is not laid", yard.sheet(1, 4), NONE);
        due("0 is", yard.sheet(0, 4), 0);
        due("lay", yard.undo(), 0);
        due("0 is not laid", yard.sheet(0, 4), NONE);
    }

    private static void undoneHourOverMidnight() {
        Due.sentence("UNDONE: an HOUR behind 23, too");
        QuietByYard yard = new QuietByYard();
        pass(yard, 24);
        due("undo", yard.undo(), 9);
        due("hour 23", yard.now(1), 23);
        due("of day 0", yard.now(0), 0);
    }

    private static void otherCallsAreNoDeeds() {
        Due.sentence("only lay(), lift(), turn(), hour() are UNDONE");
        QuietByYard yard = told("s9 1 1 1;");
        yard.hour();
        yard.type('f');
        yard.clear();
        yard.hear(0, 1);
        yard.tap(0, 1, 0, 1);
        yard.rate(0, 0);
        yard.keep(0);
        yard.forget(1);
        due("one deed", yard.now(3), 1);
        due("undone", yard.undo(), 0);
        due("the hour is", yard.now(1), 0);
        due("heard is not", yard.count(6), 1);
        due("taps are not", yard.count(7), 0);
        due("the trace is not", yard.trace(), 1);
        due("the image is not", yard.back(0), 0);
        due("it has hour 1", yard.now(1), 1);
    }

    private static void refusedAreNoDeeds() {
        Due.sentence("the latest that was not refused");
        QuietByYard yard = told("g1 1;s9 1 1 1;s9 1 1 1;s9 2 1 1;");
        yard.lay(0, 0);
        yard.lay(0, 0);
        yard.lay(1, 0);
        yard.lay(2, 0);
        yard.lay(3, 0);
        yard.lift(1);
        yard.lift(-1);
        yard.turn(3);
        yard.turn(-1);
        due("one deed", yard.now(3), 1);
        due("undone", yard.undo(), 0);
        due("it is not laid", yard.sheet(0, 4), NONE);
    }

    private static void tenAreKnown() {
        Due.sentence("10 are known, older ones are lost");
        for (int deeds = 9; deeds <= 11; deeds++) {
            QuietByYard yard = new QuietByYard();
            pass(yard, deeds);
            int known = Math.min(10, deeds);
            due("known of " + deeds, yard.now(3), known);
            for (int left = known - 1; left >= 0; left--) {
                due("undo", yard.undo(), left);
            }
            due("no more", yard.undo(), STATE);
            due("the hour", yard.now(1), deeds - known);
        }
    }

    private static void tenOfManyKinds() {
        Due.sentence("10 are known, of all kinds together");
        QuietByYard yard = told("g1 1;n0 50 0 23;s9 1 1 1;");
        yard.hour();
        yard.lay(0, 0);
        for (int i = 0; i < 3; i++) {
            yard.hour();
            yard.turn(0);
            yard.lift(0);
            yard.lay(0, 0);
        }
        due("fourteen are ten", yard.now(3), 10);
        for (int i = 0; i < 10; i++) {
            yard.undo();
        }
        due("none is left", yard.now(3), 0);
        // Left are: hour, lay, hour, turn.
        due("laid", yard.sheet(0, 4), 0);
        due("worn by 5, turned", yard.sheet(0, 5), 2);
        due("hour 2", yard.now(1), 2);
    }

    private static void undoneAndDoneAgain() {
        Due.sentence("10 are known: what is undone makes room");
        QuietByYard yard = new QuietByYard();
        pass(yard, 13);
        for (int i = 0; i < 4; i++) {
            yard.undo();
        }
        due("six are left", yard.now(3), 6);
        pass(yard, 2);
        due("eight", yard.now(3), 8);
        pass(yard, 5);
        due("ten", yard.now(3), 10);
        due("hour 16", yard.now(1), 16);
        for (int hour = 15; hour >= 6; hour--) {
            due("undo", yard.undo(), hour - 6);
            due("the hour", yard.now(1), hour);
        }
        due("no more", yard.undo(), STATE);
    }

    private static void undoneIsNoDeed() {
        Due.sentence("undo(): how many more may be");
        QuietByYard yard = new QuietByYard();
        pass(yard, 2);
        due("one more", yard.undo(), 1);
        due("not the same hour again", yard.undo(), 0);
        due("hour 0", yard.now(1), 0);
    }

    private static void noneToUndo() {
        Due.sentence("undo(): STATE: none");
        QuietByYard yard = new QuietByYard();
        due("new", yard.undo(), STATE);
        yard.hour();
        Due.type(yard, "f1;");
        yard.house();
        due("told anew", yard.undo(), STATE);
        yard.keep(0);
        yard.hour();
        yard.back(0);
        due("behind back()", yard.undo(), STATE);
        due("it is hour 0", yard.now(1), 0);
    }
}
