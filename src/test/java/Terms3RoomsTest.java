/**
 * Terms, part 3 (rooms: still, waked, worn through, to buy, gain), and what promises 16 to 19 say of
 * them: a test for each sentence that names an edge. Answers are worked out by hand.
 */
public final class Terms3RoomsTest {
    private static final int BAD = -1, NONE = -9, NO = -1000000, NOT_BOUGHT = -5;

    private Terms3RoomsTest() {
    }

    public static void main(String[] args) {
        waked();
        through();
        toBuy();
        toBuyTies();
        gain();
        Due.end();
    }

    private static void waked() {
        stillByMost();
        stillOutsideItsHours();
        wakedFirstRoom();
        wakedFirstHour();
        wakedOfADay();
        wakedBySheetsAsTheyAre();
        wakedNobody();
        wakedRefused();
    }

    private static void through() {
        throughBehindOneHour();
        throughBehindMidnight();
        throughBehind240();
        throughSoAlready();
        throughLaidOnly();
        throughFirst();
        throughLeast();
        throughWearsOnTheWay();
        throughRefused();
    }

    private static void toBuy() {
        buyNothing();
        buyNone();
        buyOne();
        buyTwo();
        buyTwoAtMost();
        buyNotLaid();
        buyLeastPrice();
        buyDearest();
        buyInAllHours();
        buyAllRooms();
        buyWorn();
        buyWhereItCanLie();
        buyRefused();
    }

    private static void toBuyTies() {
        firstNotLaid();
        firstNotLaidOfPairs();
        firstLesserCell();
        firstLesserCellOfTheFirstSheet();
        oneOrTwoOfOnePrice();
    }

    private static void gain() {
        gainOfALaidSheet();
        gainInTheLoudestHour();
        gainOfAllRooms();
        gainBelowNothing();
        gainRefused();
    }

    private static void due(String call, long got, long want) {
        Due.due(call, got, want);
    }

    private static QuietByYard told(String letters) {
        return Due.told(letters);
    }

    private static void pass(QuietByYard yard, int hours) {
        for (int i = 0; i < hours; i++) {
            yard.hour();
        }
    }

    private static void dueWaked(String letters, int room, int hour) {
        QuietByYard yard = told(letters);
        due(letters + " waked(0)", yard.waked(0), room);
        due(letters + " waked(1)", yard.waked(1), hour);
    }

    // ---- still, waked

    private static void stillByMost() {
        Due.sentence("STILL: LOUD at its CELL is MOST at most");
        dueWaked("g1 1;n0 60 0 23;r0 0 23 60;", NONE, NONE);
        dueWaked("g1 1;n0 60 0 23;r0 0 23 59;", 0, 0);
        dueWaked("g1 1;n0 99 0 23;r0 0 23 99;", NONE, NONE);
        dueWaked("g1 1;n0 99 0 23;r0 0 23 98;", 0, 0);
        dueWaked("g1 1;n0 1 0 23;r0 0 23 0;", 0, 0);
        dueWaked("g2 1;f1;n1 1 0 23;r0 0 23 0;", NONE, NONE);
        dueWaked("g2 1;f1;n1 2 0 23;r0 0 23 0;", 0, 0);
    }

    private static void stillOutsideItsHours() {
        Due.sentence("STILL in an HOUR, if it is not of its HOURS");
        dueWaked("g1 1;n0 60 5 6;r0 6 7 0;", 0, 6);
        dueWaked("g1 1;n0 60 5 6;r0 7 23 0;", NONE, NONE);
        dueWaked("g1 1;n0 60 5 6;r0 4 5 0;", 0, 5);
        dueWaked("g1 1;n0 60 5 6;r0 0 4 0;", NONE, NONE);
        dueWaked("g1 1;n0 60 0 0;r0 0 0 0;", 0, 0);
        dueWaked("g1 1;n0 60 23 23;r0 23 23 0;", 0, 23);
        dueWaked("g1 1;n0 60 23 23;r0 0 22 0;", NONE, NONE);
    }

    private static void wakedFirstRoom() {
        Due.sentence("WAKED: the first ROOM that is not STILL in some HOUR of a day");
        dueWaked("g1 1;n0 60 9 9;n0 60 2 2;r0 9 9 0;r0 2 2 0;", 0, 9);
        dueWaked("g1 1;n0 60 9 9;n0 60 2 2;r0 9 9 60;r0 2 2 0;", 1, 2);
        dueWaked("g1 1;n0 60 9 9;r0 9 9 60;r0 0 8 0;r0 9 23 59;", 2, 9);
    }

    private static void wakedFirstHour() {
        Due.sentence("WAKED: the first HOUR");
        dueWaked("g1 1;n0 60 0 23;r0 4 9 0;", 0, 4);
        dueWaked("g1 1;n0 60 7 23;r0 4 9 0;", 0, 7);
        dueWaked("g1 1;n0 60 9 23;r0 4 9 0;", 0, 9);
        dueWaked("g1 1;n0 40 2 9;n0 60 8 8;n0 50 6 7;r0 0 23 49;", 0, 6);
        dueWaked("g1 1;n0 40 2 9;n0 60 8 8;n0 50 6 7;r0 0 23 50;", 0, 8);
    }

    private static void wakedOfADay() {
        Due.sentence("in some HOUR of a day (whatever the HOUR is NOW)");
        QuietByYard yard = told("g1 1;n0 60 5 5;n0 60 20 20;r0 0 23 0;");
        pass(yard, 6);
        due("behind it, of the day", yard.waked(1), 5);
        pass(yard, 14);
        due("in hour 20, which is loud, too", yard.waked(1), 5);
        pass(yard, 3);
        due("in hour 23", yard.waked(1), 5);
        pass(yard, 1);
        due("the day after", yard.waked(1), 5);
    }

    private static void wakedBySheetsAsTheyAre() {
        Due.sentence("SHEETS as they are NOW");
        QuietByYard yard = told("g2 1;f20;n0 99 0 23;r1 0 23 76;s3 1 1 1;");
        due("without", yard.waked(0), 0);
        yard.lay(0, 1);
        due("79 less 3", yard.waked(0), NONE);
        yard.hour();
        due("worn by 7", yard.waked(0), NONE);
        yard.hour();
        due("worn by 14", yard.waked(0), 0);
        due("from hour 0", yard.waked(1), 0);
    }

    private static void wakedNobody() {
        Due.sentence("WAKED: NONE");
        dueWaked("", NONE, NONE);
        dueWaked("n0 99 0 23;", NONE, NONE);
        dueWaked("r0 0 23 0;r1 0 23 0;r2 0 23 0;", NONE, NONE);
    }

    private static void wakedRefused() {
        Due.sentence("waked(): BAD");
        QuietByYard yard = told("g1 1;n0 60 0 23;r0 0 23 0;");
        due("waked(2)", yard.waked(2), BAD);
        due("waked(-1)", yard.waked(-1), BAD);
        due("nobody, waked(2)", told("").waked(2), BAD);
    }

    // ---- worn through

    private static void throughBehindOneHour() {
        Due.sentence("behind how many HOURS from NOW (1 ..)");
        QuietByYard yard = told("g1 1;n0 99 0 23;s1 1 1 1;");
        yard.lay(0, 0);
        due("9, 18", yard.through(0), 2);
        yard.hour();
        due("18", yard.through(0), 1);
        due("the sheet", yard.through(1), 0);
        due("nothing is changed", yard.sheet(0, 5) * 100 + yard.now(1), 901);
        yard.hour();
        due("it is so", yard.through(0), NONE);
        yard.undo();
        due("it is not so", yard.through(0), 1);
        yard = told("g1 1;n0 50 0 23;s1 1 1 1;");
        yard.lay(0, 0);
        due("5, and just 10", yard.through(0), 2);
    }

    private static void throughBehindMidnight() {
        Due.sentence("behind how many HOURS from NOW, over midnight");
        QuietByYard yard = told("g1 1;n0 99 0 0;s1 1 1 1;");
        yard.lay(0, 0);
        due("in hour 0 of this day and of the next", yard.through(0), 25);
        yard.hour();
        due("in hour 0 of the next day", yard.through(0), 24);
        pass(yard, 22);
        due("from hour 23", yard.through(0), 2);
        yard.hour();
        due("from hour 0", yard.through(0), 1);
    }

    private static void throughBehind240() {
        Due.sentence("(1 .. 240)");
        QuietByYard yard = told("g1 1;n0 10 0 23;s24 1 1 1;");
        yard.lay(0, 0);
        due("1 an hour: 240", yard.through(0), 240);
        due("sheet", yard.through(1), 0);
        yard.lift(0);
        yard.hour();
        yard.lay(0, 0);
        due("240 from any hour", yard.through(0), 240);
        yard = told("g1 1;n0 50 0 0;s6 1 1 1;");
        yard.lay(0, 0);
        pass(yard, 24);
        due("5 worn and 5 a day: 241", yard.through(0), NONE);
        due("no sheet", yard.through(1), NONE);
        yard.hour();
        due("240", yard.through(0), 240);
        yard.hour();
        due("239", yard.through(0), 239);
    }

    private static void throughSoAlready() {
        Due.sentence("a SHEET that is not so");
        QuietByYard yard = told("g2 1;n0 99 0 23;n1 99 0 23;s0 1 1 1;s2 1 1 1;");
        yard.lay(0, 0);
        due("0 thick: so already", yard.through(0), NONE);
        yard.lay(1, 1);
        due("9, 18, 27 of the other", yard.through(0), 3);
        due("the other", yard.through(1), 1);
        pass(yard, 3);
        due("both are so", yard.through(0), NONE);
        due("both are so", yard.through(1), NONE);
        due("worn by 27: turned it is 13", yard.turn(1), 13);
        due("not so: 22", yard.through(0), 1);
    }

    private static void throughLaidOnly() {
        Due.sentence("a SHEET that is LAID");
        QuietByYard yard = told("g2 1;n0 99 0 23;n1 99 0 23;s1 1 1 1;s3 1 1 1;");
        due("none is", yard.through(0), NONE);
        due("none is", yard.through(1), NONE);
        yard.lay(1, 0);
        due("3 thick: 36", yard.through(0), 4);
        due("sheet 1", yard.through(1), 1);
        yard.lift(1);
        due("none is", yard.through(0), NONE);
        due("silence wears nothing", told("g1 1;s1 1 1 1;").lay(0, 0), 1);
        yard = told("g1 1;n0 9 0 23;s1 1 1 1;");
        yard.lay(0, 0);
        due("9 by 10 wears nothing", yard.through(0), NONE);
    }

    private static void throughFirst() {
        Due.sentence("which first");
        QuietByYard yard = told("g3 1;f20;n0 99 0 23;s2 1 1 1;s1 1 1 1;");
        yard.lay(0, 2);
        yard.lay(1, 0);
        due("9 and 18", yard.through(0), 2);
        due("sheet 1", yard.through(1), 1);
        yard.lift(1);
        due("99 less 42, or 41, is 5 an hour", yard.through(0), 4);
        due("sheet 0", yard.through(1), 0);
    }

    private static void throughLeast() {
        Due.sentence("of several the least");
        QuietByYard yard = told("g3 1;f1;n0 99 0 23;n1 99 0 23;n2 99 0 23;s9 1 1 1;s1 1 1 1;s1 1 1 1;");
        yard.lay(2, 0);
        yard.lay(1, 2);
        yard.lay(0, 1);
        due("both in hour 2", yard.through(0), 2);
        due("1 and 2: sheet 1", yard.through(1), 1);
    }

    private static void throughWearsOnTheWay() {
        Due.sentence("behind how many HOURS (each by the SHEETS of that HOUR)");
        QuietByYard yard = told("g2 1;f1;n0 22 0 23;s2 1 1 1;");
        yard.lay(0, 1);
        due("19 is 1 for ten hours; then 20, as it is thinner, is 2", yard.through(0), 15);
    }

    private static void throughRefused() {
        Due.sentence("through(): BAD");
        QuietByYard yard = told("g1 1;n0 99 0 23;s1 1 1 1;");
        due("none laid, through(2)", yard.through(2), BAD);
        yard.lay(0, 0);
        due("through(2)", yard.through(2), BAD);
        due("through(-1)", yard.through(-1), BAD);
    }

    // ---- to buy

    private static void dueBought(QuietByYard yard, String what, int price, int... cells) {
        due(what + ": price", yard.toBuy(NONE), price);
        for (int s = 0; s < cells.length; s++) {
            due(what + ": sheet " + s, yard.toBuy(s), cells[s]);
        }
    }

    private static void buyNothing() {
        Due.sentence("TO BUY: the PRICE, if all ROOMS are STILL");
        dueBought(told(""), "empty", 0);
        dueBought(told("g1 1;n0 60 0 23;s1 1 1 1;r0 0 23 60;"), "still", 0, NOT_BOUGHT);
        dueBought(told("s1 1 1 1;s1 1 1 1;s1 1 1 1;s1 1 1 1;r0 0 23 0;"), "still, by none of four", 0,
            NOT_BOUGHT, NOT_BOUGHT, NOT_BOUGHT, NOT_BOUGHT);
        QuietByYard yard = told("g2 1;f1;n0 60 0 23;s1 1 1 1;s1 1 1 1;r1 0 23 58;");
        yard.lay(0, 1);
        dueBought(yard, "still by what lies there", 0, BAD, NOT_BOUGHT);
        yard.lay(1, 0);
        dueBought(yard, "no: half of 1 is 0, and none is left", NONE, BAD, BAD);
    }

    private static void buyNone() {
        Due.sentence("TO BUY: NONE");
        dueBought(told("g1 1;n0 60 0 23;r0 0 23 59;"), "no sheets", NONE);
        dueBought(told("g1 1;n0 60 0 23;s30 1 1 1;r0 0 23 59;"), "none helps", NONE, NONE);
        dueBought(told("g2 1;f1;n0 60 0 23;s30 1 1 1;r1 0 23 29;"), "30 are enough", 1, 1);
        dueBought(told("g2 1;f1;n0 60 0 23;s30 1 1 1;r1 0 23 28;"), "31 would be", NONE, NONE);
    }

    private static void buyOne() {
        Due.sentence("TO BUY: the CELL of a SHEET (-5: it is not LAID by that)");
        dueBought(told("g2 1;f1;n1 60 0 23;s1 1 1 4;s2 1 1 4;s9 1 2 1;r0 0 23 57;"), "on 0", 4,
            NOT_BOUGHT, 0, NOT_BOUGHT);
        dueBought(told("g4 3;f1;n10 60 0 23;s0 1 1 1;s0 1 1 1;s0 1 1 1;s2 1 1 7;r11 0 23 57;"), "on 11", 7,
            NOT_BOUGHT, NOT_BOUGHT, NOT_BOUGHT, 11);
    }

    private static void buyTwo() {
        Due.sentence("TO BUY: two at most");
        dueBought(told("g4 1;f1;n0 60 0 0;s10 1 1 1;s10 1 1 1;r3 0 0 37;"), "two that do not touch", 2, 1, 3);
        dueBought(told("g4 1;f1;n0 60 0 0;s10 1 1 1;s10 1 1 1;r3 0 0 36;"), "no two", NONE, NONE, NONE);
    }

    /** Each of the three cells beside the noise needs a sheet of its own. */
    private static void buyTwoAtMost() {
        Due.sentence("TO BUY: two at most, three are too many");
        QuietByYard yard = told("f1;n1 60 0 0;s5 1 1 1;s5 1 1 1;s5 1 1 1;r0 0 0 54;r2 0 0 54;r4 0 0 54;");
        dueBought(yard, "three", NONE, NONE, NONE, NONE);
        yard.lay(0, 0);
        dueBought(yard, "two more", 2, BAD, 2, 4);
        yard.lay(2, 2);
        dueBought(yard, "one more", 1, BAD, 4, BAD);
        yard.lay(1, 4);
        dueBought(yard, "none more", 0, BAD, BAD, BAD);
        yard = told("f1;n1 60 0 0;s5 1 1 1;s5 1 1 1;s5 1 1 1;s5 1 1 1;r0 0 0 54;r2 0 0 54;r4 0 0 54;");
        dueBought(yard, "three of four", NONE, NONE, NONE, NONE, NONE);
    }

    private static void buyNotLaid() {
        Due.sentence("TO BUY: SHEETS that are not LAID");
        QuietByYard yard = told("g2 1;f1;n0 60 0 0;s5 1 1 1;r1 0 0 54;");
        dueBought(yard, "it would do", 1, 1);
        yard.lay(0, 0);
        dueBought(yard, "it is laid elsewhere", NONE, BAD);
        yard.lift(0);
        dueBought(yard, "it would do again", 1, 1);
    }

    private static void buyLeastPrice() {
        Due.sentence("TO BUY: the least PRICE together");
        String house = "g4 1;f1;n0 60 0 0;r3 0 0 47;";
        dueBought(told(house + "s10 1 1 4;s5 1 1 1;s5 1 1 2;"), "two for 3, one for 4", 3, NOT_BOUGHT, 1, 3);
        dueBought(told(house + "s10 1 1 2;s5 1 1 1;s5 1 1 2;"), "one for 2, two for 3", 2, 1, NOT_BOUGHT, NOT_BOUGHT);
        dueBought(told(house + "s10 1 1 9;s10 1 1 8;s10 1 1 7;"), "the cheapest", 7, NOT_BOUGHT, NOT_BOUGHT, 1);
        dueBought(told(house + "s10 1 1 7;s10 1 1 8;s10 1 1 9;"), "the cheapest", 7, 1, NOT_BOUGHT, NOT_BOUGHT);
    }

    private static void buyDearest() {
        Due.sentence("TO BUY: the least PRICE, up to 9 and 9");
        String house = "g4 1;f1;n0 60 0 0;r3 0 0 37;";
        dueBought(told(house + "s10 1 1 9;s10 1 1 9;"), "18", 18, 1, 3);
        dueBought(told(house + "s10 1 1 9;s0 1 1 9;s0 1 1 9;s10 1 1 9;"), "the first and the last", 18,
            1, NOT_BOUGHT, NOT_BOUGHT, 3);
    }

    private static void buyInAllHours() {
        Due.sentence("TO BUY: STILL in all HOURS");
        String house = "g3 1;f1;n0 60 3 3;n2 70 20 20;s5 1 1 1;s10 1 1 2;s15 1 1 3;";
        dueBought(told(house + "r1 3 3 54;"), "hour 3", 1, 1, NOT_BOUGHT, NOT_BOUGHT);
        dueBought(told(house + "r1 3 20 54;"), "hours 3 and 20", 3, NOT_BOUGHT, NOT_BOUGHT, 1);
        dueBought(told(house + "r1 4 19 0;"), "neither", 0, NOT_BOUGHT, NOT_BOUGHT, NOT_BOUGHT);
        dueBought(told(house + "r1 0 19 54;"), "hour 3 of many", 1, 1, NOT_BOUGHT, NOT_BOUGHT);
    }

    private static void buyAllRooms() {
        Due.sentence("TO BUY: all ROOMS");
        String house = "g3 1;f1;n1 60 0 0;s5 1 1 1;s5 1 1 1;";
        dueBought(told(house + "r0 0 0 54;"), "one room", 1, NOT_BOUGHT, 0);
        dueBought(told(house + "r0 0 0 54;r2 0 0 54;"), "two rooms", 2, 0, 2);
        dueBought(told(house + "r0 0 0 54;r2 0 0 54;r1 0 0 60;"), "three rooms", 2, 0, 2);
        dueBought(told(house + "r0 0 0 54;r2 0 0 54;r1 0 0 59;"), "the third can't be", NONE, NONE, NONE);
    }

    private static void buyWorn() {
        Due.sentence("TO BUY: SHEETS as they are NOW");
        QuietByYard yard = told("g2 1;f1;n0 99 0 23;s6 1 1 1;s9 1 1 5;r1 0 23 92;");
        dueBought(yard, "unworn", 1, 1, NOT_BOUGHT);
        yard.lay(0, 0);
        pass(yard, 1);
        yard.lift(0);
        dueBought(yard, "worn by 9", 1, 1, NOT_BOUGHT);
        yard.lay(0, 0);
        pass(yard, 1);
        yard.lift(0);
        dueBought(yard, "worn by 18", 5, NOT_BOUGHT, 1);
    }

    private static void buyWhereItCanLie() {
        Due.sentence("TO BUY: and where");
        dueBought(told("f1;n0 60 0 0;s9 2 1 1;r3 0 0 50;"), "on 3, not over the row's end on 2", 1, 3);
        dueBought(told("g2 2;f1;n0 60 0 0;s9 1 2 1;r3 0 0 49;"), "on 1, not over the last row on 3", 1, 1);
        dueBought(told("g2 1;f1;n0 60 0 0;s9 3 1 1;s9 1 2 1;r1 0 0 51;"), "too great for the house", NONE, NONE, NONE);
        QuietByYard yard = told("g2 1;f1;n0 60 0 0;s0 1 1 1;s9 1 1 1;s9 2 1 1;r1 0 0 51;");
        dueBought(yard, "free", 1, NOT_BOUGHT, NOT_BOUGHT, 0);
        yard.lay(0, 1);
        dueBought(yard, "another lies there", NONE, BAD, NONE, NONE);
    }

    private static void buyRefused() {
        Due.sentence("toBuy(): BAD (one that is LAID, too)");
        QuietByYard yard = told("g2 1;n0 60 0 0;s9 1 1 1;s9 1 1 1;");
        yard.lay(1, 1);
        due("laid", yard.toBuy(1), BAD);
        due("no sheet 2", yard.toBuy(2), BAD);
        due("no sheet -1", yard.toBuy(-1), BAD);
        due("-5 is none", yard.toBuy(-5), BAD);
        due("-8", yard.toBuy(-8), BAD);
        due("-10", yard.toBuy(-10), BAD);
        due("not laid", yard.toBuy(0), NOT_BOUGHT);
        yard = told("g2 1;n0 60 0 0;s9 1 1 1;s9 1 1 1;r0 0 0 0;");
        yard.lay(1, 1);
        due("BAD though none can be bought", yard.toBuy(1), BAD);
        due("BAD though none can be bought", yard.toBuy(2), BAD);
    }

    // ---- of one price

    private static void firstNotLaid() {
        Due.sentence("of such the first: not LAID ahead of LAID");
        String house = "g3 1;f1;n0 60 0 0;r2 0 0 53;";
        dueBought(told(house + "s5 1 1 2;s5 1 1 2;s5 1 1 2;s5 1 1 2;"), "the last sheet alone", 2,
            NOT_BOUGHT, NOT_BOUGHT, NOT_BOUGHT, 1);
        dueBought(told(house + "s5 1 1 2;s5 1 1 2;s4 1 1 2;"), "the last that does", 2, NOT_BOUGHT, 1, NOT_BOUGHT);
    }

    private static void firstNotLaidOfPairs() {
        Due.sentence("of such the first, SHEET by SHEET: pairs");
        String house = "g3 1;f1;n1 60 0 0;r0 0 0 54;r2 0 0 54;";
        dueBought(told(house + "s5 1 1 3;s5 1 1 3;s5 1 1 3;s5 1 1 3;"), "2 and 3", 6,
            NOT_BOUGHT, NOT_BOUGHT, 0, 2);
        dueBought(told(house + "s5 1 1 3;s5 1 1 3;s5 1 1 3;s4 1 1 3;"), "1 and 2", 6,
            NOT_BOUGHT, 0, 2, NOT_BOUGHT);
        dueBought(told(house + "s5 1 1 1;s5 1 1 3;s5 1 1 2;s5 1 1 4;"), "0 and 2 are the cheapest", 3,
            0, NOT_BOUGHT, 2, NOT_BOUGHT);
        dueBought(told(house + "s5 1 1 1;s5 1 1 4;s5 1 1 3;s5 1 1 2;"), "0 and 3 are", 3,
            0, NOT_BOUGHT, NOT_BOUGHT, 2);
        dueBought(told(house + "s5 1 1 4;s5 1 1 3;s5 1 1 2;s5 1 1 1;"), "2 and 3 are", 3,
            NOT_BOUGHT, NOT_BOUGHT, 0, 2);
        dueBought(told(house + "s5 1 1 4;s5 1 1 2;s5 1 1 3;s5 1 1 1;"), "1 and 3: 3, 0 and 3: 5", 3,
            NOT_BOUGHT, 0, NOT_BOUGHT, 2);
        dueBought(told(house + "s5 1 1 1;s5 1 1 2;s5 1 1 2;s5 1 1 1;"), "0 and 3 alone are 2", 2,
            0, NOT_BOUGHT, NOT_BOUGHT, 2);
        dueBought(told(house + "s5 1 1 3;s5 1 1 2;s5 1 1 2;s5 1 1 1;"), "1 and 3 or 2 and 3", 3,
            NOT_BOUGHT, NOT_BOUGHT, 0, 2);
    }

    private static void firstLesserCell() {
        Due.sentence("of such the first: then the lesser CELL");
        dueBought(told("g4 1;f1;n0 60 0 0;s5 1 1 2;r3 0 0 52;"), "on 1, 2 or 3", 2, 1);
        dueBought(told("g4 1;f1;n3 60 0 0;s5 1 1 2;r0 0 0 52;"), "on 0, 1 or 2", 2, 0);
        dueBought(told("g4 1;f1;n3 60 0 0;s5 2 1 2;r0 0 0 52;"), "two wide, too", 2, 0);
    }

    private static void firstLesserCellOfTheFirstSheet() {
        Due.sentence("of such the first, SHEET by SHEET: the first SHEET's CELL ahead of the second's");
        dueBought(told("g4 1;f1;n0 60 0 0;s10 1 1 1;s10 1 1 1;r3 0 0 37;"), "1 and 3, not 3 and 1", 2, 1, 3);
        dueBought(told("g3 1;f1;n1 60 0 0;s5 1 1 1;s5 1 1 1;r0 0 0 54;r2 0 0 54;"), "0 and 2, not 2 and 0", 2, 0, 2);
        // The first must be the thick one, at the louder end.
        dueBought(told("g3 1;f1;n1 60 0 0;s5 1 1 1;s9 1 1 1;r0 0 0 50;r2 0 0 54;"), "2 and 0", 2, 2, 0);
    }

    private static void oneOrTwoOfOnePrice() {
        Due.sentence("of such the first: one SHEET or two of the same PRICE");
        String house = "g4 1;f1;n0 20 0 0;r3 0 0 11;";
        dueBought(told(house + "s6 1 1 5;s3 1 1 2;s3 1 1 3;"), "two: sheet 0 is not laid", 5, NOT_BOUGHT, 1, 3);
        dueBought(told(house + "s3 1 1 2;s3 1 1 3;s6 1 1 5;"), "one: sheet 0 is not laid", 5,
            NOT_BOUGHT, NOT_BOUGHT, 1);
        dueBought(told(house + "s3 1 1 2;s6 1 1 5;s3 1 1 3;"), "one: sheet 0 is not laid", 5,
            NOT_BOUGHT, 1, NOT_BOUGHT);
    }

    // ---- gain

    private static void gainOfALaidSheet() {
        Due.sentence("GAIN: how much less LOUD it is than without it");
        QuietByYard yard = told("g3 1;f1;n0 60 0 0;s10 1 1 1;s7 1 1 1;r2 0 0 0;");
        yard.lay(0, 1);
        due("10", yard.gain(0), 10);
        yard.lay(1, 2);
        due("half of 7", yard.gain(1), 3);
        due("10, but 4 more by the other without it", yard.gain(0), 6);
        yard.lift(0);
        due("7", yard.gain(1), 7);
        due("it lies on", yard.now(2), 2);
        yard = told("g2 1;f1;n0 6 0 0;s10 1 1 1;r1 0 0 0;");
        yard.lay(0, 1);
        due("no more than there was", yard.gain(0), 5);
    }

    private static void gainInTheLoudestHour() {
        Due.sentence("GAIN: each in its loudest HOUR of its HOURS");
        String house = "g3 1;f1;n0 60 3 3;n2 50 8 8;s20 1 1 1;";
        QuietByYard yard = told(house + "r1 0 2 0;");
        yard.lay(0, 0);
        due("on the noise's cell it takes nothing", yard.gain(0), 0);
        yard.lift(0);
        yard.lay(0, 1);
        due("silent in its hours", yard.gain(0), 0);
        yard = told("g4 1;f1;n0 60 3 3;n3 50 8 8;s20 1 1 1;r2 3 7 0;");
        yard.lay(0, 1);
        due("hour 3 alone: 58 and 38", yard.gain(0), 20);
        yard = told("g4 1;f1;n0 60 3 3;n3 50 8 8;s20 1 1 1;r2 3 8 0;");
        yard.lay(0, 1);
        due("hour 3 without it, 58; hour 8 with it, 49", yard.gain(0), 9);
        yard = told("g4 1;f1;n0 60 3 3;n3 50 8 8;s20 1 1 1;r2 4 8 0;");
        yard.lay(0, 1);
        due("hour 8 alone", yard.gain(0), 0);
        yard = told("g1 1;n0 60 23 23;s20 1 1 1;r0 0 23 0;");
        yard.lay(0, 0);
        due("where the noise is", yard.gain(0), 0);
    }

    private static void gainOfAllRooms() {
        Due.sentence("GAIN: in all ROOMS together");
        QuietByYard yard = told("g3 1;f1;n0 60 3 3;s10 2 1 1;r1 0 23 99;r2 0 23 0;r0 0 23 0;");
        yard.lay(0, 1);
        due("10 and 20 and 0", yard.gain(0), 30);
        yard = told("g3 1;f1;n0 60 3 3;s10 2 1 1;");
        yard.lay(0, 1);
        due("no rooms", yard.gain(0), 0);
        yard = told("g3 1;f1;n0 60 3 3;s10 2 1 1;r2 3 3 0;r2 3 3 0;");
        yard.lay(0, 1);
        due("two in one cell", yard.gain(0), 40);
    }

    private static void gainBelowNothing() {
        Due.sentence("NO: what none is, where a number may be below 0");
        QuietByYard yard = told("g3 1;f1;n0 90 0 0;s0 1 1 1;s30 1 1 1;r2 0 0 0;");
        yard.lay(0, 1);
        yard.lay(1, 2);
        due("without it the other would not leak", yard.gain(0), -15);
    }

    private static void gainRefused() {
        Due.sentence("GAIN. NO: there is no such SHEET, or it is not LAID");
        QuietByYard yard = told("g2 1;s9 1 1 1;s9 1 1 1;");
        yard.lay(1, 0);
        due("not laid", yard.gain(0), NO);
        due("laid", yard.gain(1), 0);
        due("no sheet 2", yard.gain(2), NO);
        due("no sheet -1", yard.gain(-1), NO);
        yard.lift(1);
        due("taken up", yard.gain(1), NO);
    }
}
