/**
 * Terms, part 1 (cells and the text), and what promises 1 to 7 and 32 say of them: a test for each
 * sentence that names an edge. Answers are worked out by hand.
 */
public final class Terms1Test {
    private static final int BAD = -1, FULL = -3, NONE = -9;
    private static final int MOST_LETTERS = 200;

    private Terms1Test() {
    }

    public static void main(String[] args) {
        cells();
        houses();
        lists();
        tokens();
        faults();
        Due.end();
    }

    private static void cells() {
        lastCell();
        rowByRow();
        sideBySide();
        oneUnderAnother();
    }

    private static void houses() {
        wide();
        deep();
        formAtFirst();
        fall();
        fallAtFirst();
    }

    private static void lists() {
        noisesAtMost();
        strength();
        noiseCell();
        noiseHours();
        noiseHoursInOrder();
        noiseNumbers();
        sheetsAtMost();
        thick();
        sheetWide();
        sheetLong();
        price();
        roomsAtMost();
        roomCell();
        roomHours();
        roomHoursInOrder();
        most();
        roomNumbers();
    }

    private static void tokens() {
        lettersAtMost();
        letters();
        emptied();
        blanks();
        onlyBlanksAreBlank();
        itemsEnd();
        numbersOfAnItem();
        formFirst();
        fallOnce();
    }

    private static void faults() {
        firstLetterOfTheToken();
        otherLetters();
        aboveNinetyNine();
        zeroAhead();
        tooEarly();
        tooEarlyBehindBlanks();
        tooEarlyBehindALongerText();
        tooEarlyAtTheLastLetter();
        firstFault();
        changesNothing();
        emptyText();
        manyItems();
    }

    private static void due(String call, long got, long want) {
        Due.due(call, got, want);
    }

    private static void fault(String letters, int place) {
        Due.fault(letters, place);
    }

    private static QuietByYard told(String letters) {
        return Due.told(letters);
    }

    /** Letters, and blanks up to a length. */
    private static String filled(String letters, int length) {
        return letters + " ".repeat(length - letters.length());
    }

    // ---- cells

    private static void lastCell() {
        Due.sentence("CELLS 0 .. w times h less 1");
        String[] texts = {"", "g1 1;", "g4 3;", "g4 1;", "g1 3;", "g2 2;", "g3 3;"};
        int[] cells = {6, 1, 12, 4, 3, 4, 9};
        for (int i = 0; i < texts.length; i++) {
            QuietByYard yard = told(texts[i]);
            due(texts[i] + " onCell 0", yard.onCell(0), NONE);
            due(texts[i] + " onCell last", yard.onCell(cells[i] - 1), NONE);
            due(texts[i] + " onCell one beyond", yard.onCell(cells[i]), BAD);
            due(texts[i] + " onCell -1", yard.onCell(-1), BAD);
            due(texts[i] + " loud last", yard.loud(cells[i] - 1, 0), 0);
            due(texts[i] + " loud one beyond", yard.loud(cells[i], 0), BAD);
            due(texts[i] + " sources", yard.sources(), (1 << cells[i]) - 1);
        }
    }

    private static void rowByRow() {
        Due.sentence("row by row");
        int[] ofFourWide = {90, 89, 88, 87, 89, 88, 87, 86, 88, 87, 86, 85};
        int[] ofTwoWide = {90, 89, 89, 88, 88, 87};
        QuietByYard four = told("g4 3;f1;n0 90 0 0;");
        QuietByYard two = told("g2 3;f1;n0 90 0 0;");
        for (int c = 0; c < ofFourWide.length; c++) {
            due("g4 3: loud at " + c, four.loud(c, 0), ofFourWide[c]);
        }
        for (int c = 0; c < ofTwoWide.length; c++) {
            due("g2 3: loud at " + c, two.loud(c, 0), ofTwoWide[c]);
        }
        four = told("g4 3;f1;n11 90 0 0;");
        two = told("g2 3;f1;n5 90 0 0;");
        for (int c = 0; c < ofFourWide.length; c++) {
            due("g4 3: from the last cell, loud at " + c, four.loud(c, 0), ofFourWide[11 - c]);
        }
        for (int c = 0; c < ofTwoWide.length; c++) {
            due("g2 3: from the last cell, loud at " + c, two.loud(c, 0), ofTwoWide[5 - c]);
        }
    }

    private static void sideBySide() {
        Due.sentence("those side by side are NEXT");
        QuietByYard yard = told("g3 2;f1;n2 50 0 0;");
        due("beside it", yard.loud(1, 0), 49);
        due("the next row's start is not beside the row's end", yard.loud(3, 0), 47);
        due("nor a row's start beside its own end", yard.loud(0, 0), 48);
        yard = told("g3 2;f1;n3 50 0 0;");
        due("nor the other way", yard.loud(2, 0), 47);
        due("the last of its row", yard.loud(5, 0), 48);
    }

    private static void oneUnderAnother() {
        Due.sentence("those one under another are NEXT");
        QuietByYard yard = told("g3 3;f1;n4 50 0 0;");
        int[] loud = {48, 49, 48, 49, 50, 49, 48, 49, 48};
        for (int c = 0; c < loud.length; c++) {
            due("around the middle: " + c, yard.loud(c, 0), loud[c]);
        }
        yard = told("g1 3;f1;n0 50 0 0;");
        due("the lowest is not next to the highest", yard.loud(2, 0), 48);
        yard = told("g1 3;f1;n2 50 0 0;");
        due("nor the other way", yard.loud(0, 0), 48);
    }

    // ---- the house's form

    private static void wide() {
        Due.sentence("w 1 .. 4");
        fault("g0 1;", 1);
        fault("g5 1;", 1);
        fault("g99 1;", 1);
        due("least", told("g1 2;").count(0), 1);
        due("greatest", told("g4 2;").count(0), 4);
    }

    private static void deep() {
        Due.sentence("h 1 .. 3");
        fault("g1 0;", 3);
        fault("g1 4;", 3);
        fault("g4 4;", 3);
        due("least", told("g2 1;").count(1), 1);
        due("greatest", told("g2 3;").count(1), 3);
    }

    private static void formAtFirst() {
        Due.sentence("3 and 2 at first");
        QuietByYard yard = new QuietByYard();
        due("new: w", yard.count(0), 3);
        due("new: h", yard.count(1), 2);
        due("new: three steps to the last cell", yard.way(0, 5, 1), 3);
        due("new: three steps of 5", yard.hired(0, 5, 1), 16);
        due("new: 2 is not next to 3", yard.way(2, 3, 1), 3);
        yard = told("g4 1;");
        Due.type(yard, "f1;n0 50 0 0;n5 5 1 1;");
        due("told anew without g", yard.house(), 3);
        due("w again", yard.count(0), 3);
        due("h again", yard.count(1), 2);
        due("2 is not over 3", yard.loud(3, 0), 49);
        due("no cell 6", yard.onCell(6), BAD);
    }

    private static void fall() {
        Due.sentence("FALL (1 .. 20)");
        fault("f0;", 1);
        fault("f21;", 1);
        fault("f99;", 1);
        QuietByYard yard = told("f1;n0 50 0 0;");
        due("least", yard.count(2), 1);
        due("1 a step", yard.loud(5, 0), 47);
        yard = told("f20;n0 50 0 0;");
        due("greatest", yard.count(2), 20);
        due("20 a step", yard.loud(4, 0), 10);
    }

    private static void fallAtFirst() {
        Due.sentence("FALL 5 at first");
        due("new", new QuietByYard().count(2), 5);
        QuietByYard yard = told("f9;");
        Due.type(yard, "n0 50 0 0;");
        yard.house();
        due("told anew without f", yard.count(2), 5);
        due("5 a step", yard.loud(1, 0), 45);
    }

    // ---- noises, sheets, rooms

    private static void noisesAtMost() {
        Due.sentence("NOISES 0 .. (3 at most)");
        QuietByYard yard = told("f1;");
        due("none", yard.count(3), 0);
        due("no noise 0", yard.noise(0, 0), BAD);
        due("silence", yard.loud(0, 0), 0);
        yard = told("n0 1 0 0;n1 2 0 0;n2 3 0 0;");
        due("three", yard.count(3), 3);
        due("the last", yard.noise(2, 1), 3);
        due("no noise 3", yard.noise(3, 1), BAD);
        due("the last sounds", yard.loud(2, 0), 3);
        fault("n0 1 0 0;n1 2 0 0;n2 3 0 0;n3 4 0 0;", 27);
        fault("n0 1 0 0;n1 2 0 0;f1;n2 3 0 0;s1 1 1 1;n", 39);
    }

    private static void strength() {
        Due.sentence("STRENGTH (1 .. 99)");
        fault("n0 0 0 0;", 3);
        fault("n0 100 0 0;", 3);
        due("least", told("n0 1 0 0;").loud(0, 0), 1);
        due("greatest", told("n0 99 0 0;").loud(0, 0), 99);
    }

    private static void noiseCell() {
        Due.sentence("a CELL that there is not, of a NOISE");
        fault("n6 1 0 0;", 1);
        fault("n12 1 0 0;", 1);
        fault("g1 1;n1 1 0 0;", 6);
        fault("g4 3;n12 1 0 0;", 6);
        due("the first", told("n0 1 0 0;").noise(0, 0), 0);
        due("the last at first", told("n5 1 0 0;").noise(0, 0), 5);
        due("the last of 4 times 3", told("g4 3;n11 1 0 0;").noise(0, 0), 11);
        due("the only one", told("g1 1;n0 1 0 0;").noise(0, 0), 0);
    }

    private static void noiseHours() {
        Due.sentence("HOURS a to b (0 .. 23) of a NOISE");
        fault("n0 1 24 24;", 5);
        fault("n0 1 0 24;", 7);
        fault("n0 1 23 24;", 8);
        QuietByYard yard = told("n0 7 0 0;");
        due("the first hour", yard.loud(0, 0), 7);
        due("not the one behind", yard.loud(0, 1), 0);
        due("not the day's last", yard.loud(0, 23), 0);
        yard = told("n0 7 23 23;");
        due("the last hour", yard.loud(0, 23), 7);
        due("not the one ahead", yard.loud(0, 22), 0);
        due("not the day's first", yard.loud(0, 0), 0);
        yard = told("n0 7 0 23;");
        due("all of a day: first", yard.loud(0, 0), 7);
        due("all of a day: last", yard.loud(0, 23), 7);
    }

    private static void noiseHoursInOrder() {
        Due.sentence("b no less than a, of a NOISE");
        fault("n0 1 5 4;", 7);
        fault("n0 1 23 22;", 8);
        fault("n0 1 1 0;", 7);
        QuietByYard yard = told("n0 1 5 5;");
        due("the same: from", yard.noise(0, 2), 5);
        due("the same: to", yard.noise(0, 3), 5);
    }

    private static void noiseNumbers() {
        Due.sentence("Of a NOISE: 0 CELL, 1 STRENGTH, 2, 3 HOURS. BAD");
        QuietByYard yard = told("n5 99 0 23;n1 2 3 4;");
        int[] first = {5, 99, 0, 23};
        int[] second = {1, 2, 3, 4};
        for (int what = 0; what < 4; what++) {
            due("noise 0 " + what, yard.noise(0, what), first[what]);
            due("noise 1 " + what, yard.noise(1, what), second[what]);
        }
        due("noise 0 4", yard.noise(0, 4), BAD);
        due("noise 0 -1", yard.noise(0, -1), BAD);
        due("noise 2 0", yard.noise(2, 0), BAD);
        due("noise -1 0", yard.noise(-1, 0), BAD);
        due("no noise in a new object", new QuietByYard().noise(0, 0), BAD);
    }

    private static void sheetsAtMost() {
        Due.sentence("SHEETS 0 .. (4 at most)");
        QuietByYard yard = told("f1;");
        due("none", yard.count(4), 0);
        due("no sheet 0", yard.sheet(0, 0), BAD);
        yard = told("s1 1 1 1;s2 1 1 1;s3 1 1 1;s4 1 1 1;");
        due("four", yard.count(4), 4);
        due("the last", yard.sheet(3, 0), 4);
        due("no sheet 4", yard.sheet(4, 0), BAD);
        fault("s1 1 1 1;s2 1 1 1;s3 1 1 1;s4 1 1 1;s5 1 1 1;", 36);
    }

    private static void thick() {
        Due.sentence("THICK (0 .. 30)");
        fault("s31 1 1 1;", 1);
        due("least", told("s0 1 1 1;").sheet(0, 0), 0);
        due("greatest", told("s30 1 1 1;").sheet(0, 0), 30);
    }

    private static void sheetWide() {
        Due.sentence("so many CELLS wide (1 .. 3)");
        fault("s1 0 1 1;", 3);
        fault("s1 4 1 1;", 3);
        due("least", told("s1 1 2 1;").sheet(0, 1), 1);
        due("greatest", told("s1 3 2 1;").sheet(0, 1), 3);
    }

    private static void sheetLong() {
        Due.sentence("so many CELLS long (1 .. 3)");
        fault("s1 1 0 1;", 5);
        fault("s1 1 4 1;", 5);
        due("least", told("s1 2 1 1;").sheet(0, 2), 1);
        due("greatest", told("s1 2 3 1;").sheet(0, 2), 3);
    }

    private static void price() {
        Due.sentence("PRICE (1 .. 9)");
        fault("s1 1 1 0;", 7);
        fault("s1 1 1 10;", 7);
        due("least", told("s5 2 2 1;").sheet(0, 3), 1);
        due("greatest", told("s5 2 2 9;").sheet(0, 3), 9);
    }

    private static void roomsAtMost() {
        Due.sentence("ROOMS 0 .. (3 at most)");
        QuietByYard yard = told("f1;");
        due("none", yard.count(5), 0);
        due("no room 0", yard.room(0, 0), BAD);
        yard = told("r0 0 0 1;r0 0 0 2;r0 0 0 3;");
        due("three", yard.count(5), 3);
        due("the last", yard.room(2, 3), 3);
        due("no room 3", yard.room(3, 3), BAD);
        fault("r0 0 0 1;r0 0 0 2;r0 0 0 3;r0 0 0 4;", 27);
    }

    private static void roomCell() {
        Due.sentence("a CELL that there is not, of a ROOM");
        fault("r6 0 0 0;", 1);
        fault("g1 1;r1 0 0 0;", 6);
        fault("g4 3;r12 0 0 0;", 6);
        due("the first", told("r0 0 0 0;").room(0, 0), 0);
        due("the last at first", told("r5 0 0 0;").room(0, 0), 5);
        due("the last of 4 times 3", told("g4 3;r11 0 0 0;").room(0, 0), 11);
    }

    private static void roomHours() {
        Due.sentence("HOURS a to b (0 .. 23) of a ROOM");
        fault("r0 24 24 0;", 3);
        fault("r0 0 24 0;", 5);
        fault("r0 23 24 0;", 6);
        QuietByYard yard = told("r0 0 23 0;");
        due("from 0", yard.room(0, 1), 0);
        due("to 23", yard.room(0, 2), 23);
    }

    private static void roomHoursInOrder() {
        Due.sentence("b no less than a, of a ROOM");
        fault("r0 5 4 0;", 5);
        fault("r0 23 22 0;", 6);
        fault("r0 1 0 0;", 5);
        QuietByYard yard = told("r0 23 23 0;");
        due("the same: from", yard.room(0, 1), 23);
        due("the same: to", yard.room(0, 2), 23);
    }

    private static void most() {
        Due.sentence("MOST (0 .. 99)");
        fault("r0 0 0 100;", 7);
        due("least", told("r0 0 0 0;").room(0, 3), 0);
        due("greatest", told("r0 0 0 99;").room(0, 3), 99);
    }

    private static void roomNumbers() {
        Due.sentence("Of a ROOM: 0 CELL, 1, 2 HOURS, 3 MOST. BAD");
        QuietByYard yard = told("r5 0 23 99;r1 2 3 4;");
        int[] first = {5, 0, 23, 99};
        int[] second = {1, 2, 3, 4};
        for (int what = 0; what < 4; what++) {
            due("room 0 " + what, yard.room(0, what), first[what]);
            due("room 1 " + what, yard.room(1, what), second[what]);
        }
        due("room 0 4", yard.room(0, 4), BAD);
        due("room 0 -1", yard.room(0, -1), BAD);
        due("room 2 0", yard.room(2, 0), BAD);
        due("room -1 0", yard.room(-1, 0), BAD);
        due("no room in a new object", new QuietByYard().room(0, 0), BAD);
    }

    // ---- the text and its tokens

    private static void lettersAtMost() {
        Due.sentence("a text (200 letters at most)");
        QuietByYard yard = new QuietByYard();
        Due.type(yard, filled("f7;", MOST_LETTERS - 1));
        due("199", yard.count(8), 199);
        due("the 200th", yard.type(' '), 200);
        due("the 201st", yard.type(' '), FULL);
        due("200 stay", yard.count(8), 200);
        due("200 letters are told", yard.house(), 1);
        due("the first of them too", yard.count(2), 7);
        due("then there is room", yard.type('f'), 1);
        Due.items(filled("", MOST_LETTERS - 3) + "f7;", 1);
        fault(filled("f7;", MOST_LETTERS - 1) + "x", 199);
    }

    private static void letters() {
        Due.sentence("a letter (0 .. 255): how many it has");
        QuietByYard yard = new QuietByYard();
        due("0", yard.type(0), 1);
        due("255", yard.type(255), 2);
        due("256", yard.type(256), BAD);
        due("-1", yard.type(-1), BAD);
        due("two stay", yard.count(8), 2);
        due("256 and 102 is no f", yard.type(256 + 'f'), BAD);
    }

    private static void emptied() {
        Due.sentence("THE TEXT is empty: how many letters it had");
        QuietByYard yard = new QuietByYard();
        due("none", yard.clear(), 0);
        Due.type(yard, filled("", MOST_LETTERS));
        due("200", yard.clear(), 200);
        due("none are left", yard.count(8), 0);
        due("the first anew", yard.type('f'), 1);
        due("one", yard.clear(), 1);
    }

    private static void blanks() {
        Due.sentence("blanks (32) between TOKENS");
        Due.items("f7;", 1);
        Due.items("  f  7  ;  ", 1);
        fault("n 0  1   0 0 ;r 0 0 0 0", 23);
        Due.items("n 0  1   0 0 ;r 0 0 0 0 ; ", 2);
        Due.items("n1 10 0 0;", 1);
        // A blank parts a number: two numbers, and the second can't stand there.
        fault("f1 0;", 3);
        fault("n1 1 0 0 0;", 9);
        due("no blank is needed between a letter and a number", told("n5 9 8 9;").noise(0, 3), 9);
        due("nor between a number and a letter: but n can't stand there", Due.answer("f1n"), -12);
    }

    private static void onlyBlanksAreBlank() {
        Due.sentence("blanks (32)");
        char[] others = {0, 9, 10, 13, 31, 33, 95, 160};
        for (char other : others) {
            fault("f" + other + "7;", 1);
            fault("f7;" + other, 3);
        }
    }

    private static void itemsEnd() {
        Due.sentence("ITEMS, each ended by ;");
        fault(";", 0);
        fault("f7;;", 3);
        fault("f7 f", 3);
        fault("f7", 2);
        fault("g1 1 n0 1 0 0;", 5);
        fault("s1 1 1 1 s", 9);
        fault("r0 0 0 0 r", 9);
        fault("n0 1 0 0 n", 9);
    }

    private static void numbersOfAnItem() {
        Due.sentence("g W H ; f N ; n C S A B ; s T W L P ; r C A B M");
        fault("g;", 1);
        fault("g1;", 2);
        fault("g1 1 1;", 5);
        fault("f;", 1);
        fault("f1 1;", 3);
        fault("n0 1 0;", 6);
        fault("n0 1 0 0 0;", 9);
        fault("s1 1 1;", 6);
        fault("s1 1 1 1 1;", 9);
        fault("r0 0 0;", 6);
        fault("r0 0 0 0 0;", 9);
        fault("7", 0);
        fault("gf", 1);
    }

    private static void formFirst() {
        Due.sentence("g the first of all, if it is told");
        Due.items("g1 1;", 1);
        Due.items(" g1 1;f1;", 2);
        Due.items("f1;", 1);
        fault("f1;g1 1;", 3);
        fault("n0 1 0 0;g1 1;", 9);
        fault("s1 1 1 1;g1 1;", 9);
        fault("r0 0 0 0;g1 1;", 9);
        fault("g1 1;g1 1;", 5);
    }

    private static void fallOnce() {
        Due.sentence("f N (once at most)");
        fault("f1;f1;", 3);
        fault("f1;n0 1 0 0;f2;", 12);
        fault("g1 1;f1;f", 8);
        due("the last of all", told("n0 9 0 0;r0 0 0 0;s1 1 1 1;f3;").count(2), 3);
    }

    // ---- faults

    private static void firstLetterOfTheToken() {
        Due.sentence("the place of the first letter of the first TOKEN that can't stand there");
        fault("f21;", 1);
        fault("f  21;", 3);
        fault("n0 1 5  24;", 8);
        fault("   ;", 3);
        fault("s10 1 10 1;", 6);
    }

    private static void otherLetters() {
        Due.sentence("of any other letter, that TOKEN's place");
        String tokens = "gfnsr;0123456789 ";
        for (char letter = 0; letter <= 255; letter++) {
            if (tokens.indexOf(letter) < 0) {
                fault("" + letter, 0);
                fault("f5;" + letter, 3);
                fault("f" + letter + "5;", 1);
            }
        }
        // A letter that is one ends too early; a number or ; begins no item.
        fault("g", 1);
        fault("f", 1);
        fault("n", 1);
        fault("s", 1);
        fault("r", 1);
        fault(";", 0);
        fault("0", 0);
        fault("9", 0);
        fault("f5;G", 3);
        fault("f5x;", 2);
        fault("f5 x;", 3);
    }

    private static void aboveNinetyNine() {
        Due.sentence("of a NUMBER above 99, that TOKEN's place");
        fault("f100;", 1);
        fault("r0 0 0 100;", 7);
        fault("s1 1 1 101;", 7);
        // Beyond what an int, or a long, can hold: no number wraps around to a small one.
        fault("f4294967297;", 1);
        fault("f18446744073709551621;", 1);
        fault("f1" + "0".repeat(190) + "5;", 1);
        fault("r0 0 0 4294967296;", 7);
        fault("n0 99 0 100", 8);
        Due.items("n0 99 0 0;r0 0 0 99;", 2);
    }

    private static void zeroAhead() {
        Due.sentence("of a NUMBER with a 0 ahead of others, that TOKEN's place");
        fault("f05;", 1);
        fault("f00;", 1);
        fault("n00 1 0 0;", 1);
        fault("n0 01 0 0;", 3);
        fault("n0 1 00 0;", 5);
        fault("n0 1 0 01;", 7);
        fault("n0 1 0 000", 7);
        fault("r0 0 0 099;", 7);
        Due.items("n0 10 0 20;", 1);
        Due.items("r0 0 0 0;", 1);
    }

    private static void tooEarly() {
        Due.sentence("the text's length, if it ends too early");
        String whole = "g2 2;f10;n3 50 0 23;s12 1 2 3;r2 0 11 40;";
        int items = 0;
        for (int length = 0; length <= whole.length(); length++) {
            String letters = whole.substring(0, length);
            if (letters.isEmpty() || letters.endsWith(";")) {
                items = (int) letters.chars().filter(letter -> letter == ';').count();
                Due.items(letters, items);
            } else {
                fault(letters, length);
            }
        }
        due("all five ends of items were met", items, 5);
        // B is told by its first digit alone, and is less than A: it can't stand there.
        fault("n0 5 20 2", 8);
    }

    private static void tooEarlyBehindBlanks() {
        Due.sentence("the text's length, blanks and all");
        fault("f  ", 3);
        fault("f5   ", 5);
        fault("  n0 ", 5);
        fault(filled("f", MOST_LETTERS), 200);
        fault(filled("g4 3;n11 99 0 23", MOST_LETTERS), 200);
    }

    private static void tooEarlyBehindALongerText() {
        Due.sentence("THE TEXT is empty then: of its letters none are left");
        QuietByYard yard = told("g4 3;f20;");
        Due.type(yard, "g4 3;f2");
        due("f2, where 20; was", yard.house(), -17);
        yard.clear();
        Due.type(yard, "g4 3;f");
        due("f, where f2 was", yard.house(), -16);
        yard.clear();
        Due.type(yard, "g4");
        due("g4, where g4 3; was", yard.house(), -12);
        yard.clear();
        due("no letter is left", yard.house(), 0);
    }

    private static void tooEarlyAtTheLastLetter() {
        Due.sentence("the text's length, of 200 letters");
        fault(filled("f", MOST_LETTERS - 1) + "1", 200);
        fault(filled("n0 1 0", MOST_LETTERS - 2) + "12", 200);
        fault(filled("f7;", MOST_LETTERS - 1) + "n", 200);
        fault(filled("f7;", MOST_LETTERS - 1) + "0", 199);
        Due.items(filled("f7", MOST_LETTERS - 1) + ";", 1);
    }

    private static void firstFault() {
        Due.sentence("the first TOKEN that can't stand there");
        fault("f21;x", 1);
        fault("xf21;", 0);
        fault("f5;f05;", 3);
        fault("f05;f5;", 1);
        fault("n6 0 24 24;", 1);
        fault("n0 0 24 24;", 3);
        fault("g0 0;", 1);
        fault("f5;;x", 3);
        fault("f5 100", 3);
    }

    private static void changesNothing() {
        Due.sentence("-10 less FAULT: nothing changes");
        QuietByYard yard = told("g4 1;f7;n3 50 1 2;s9 1 1 2;r0 3 4 5;");
        Due.type(yard, "g2 2;f9;n1 1 1 1;n1 1 1 1;s1 1 1 1;s1 1 1 1;r1 1 1 1;r1 1 1 1;f");
        due("a fault at the very end", yard.house(), -10 - 62);
        int[] counts = {4, 1, 7, 1, 1, 1, 0, 0, 63};
        for (int what = 0; what < counts.length; what++) {
            due("count " + what, yard.count(what), counts[what]);
        }
        due("noise", yard.noise(0, 1), 50);
        due("sheet", yard.sheet(0, 0), 9);
        due("room", yard.room(0, 3), 5);
        due("where it is", yard.loud(3, 1), 50);
        due("the form", yard.loud(0, 1), 29);
        due("told again: the same fault", yard.house(), -10 - 62);
        yard.clear();
        Due.type(yard, "f8");
        due("too early", yard.house(), -12);
        due("the text goes on", yard.type(';'), 3);
        due("and is told", yard.house(), 1);
        due("fall", yard.count(2), 8);
    }

    private static void emptyText() {
        Due.sentence("THE TEXT tells all anew, and is empty then");
        Due.items("", 0);
        Due.items(" ", 0);
        Due.items(filled("", MOST_LETTERS), 0);
        QuietByYard yard = told("g1 1;f9;n0 9 0 0;s1 1 1 1;r0 0 0 0;");
        due("the text is empty", yard.count(8), 0);
        due("no items", yard.house(), 0);
        int[] counts = {3, 2, 5, 0, 0, 0, 0, 0, 0};
        for (int what = 0; what < counts.length; what++) {
            due("an empty house: count " + what, yard.count(what), counts[what]);
        }
    }

    private static void manyItems() {
        Due.sentence("how many ITEMS");
        String most = "g1 1;f1;n0 1 0 0;n0 1 0 0;n0 1 0 0;s1 1 1 1;s1 1 1 1;s1 1 1 1;s1 1 1 1;"
            + "r0 0 0 0;r0 0 0 0;r0 0 0 0;";
        Due.items(most, 12);
        fault(most + "g1 1;", 98);
        fault(most + "f1;", 98);
        fault(most + "n0 1 0 0;", 98);
        fault(most + "s1 1 1 1;", 98);
        fault(most + "r0 0 0 0;", 98);
        fault(most + ";", 98);
    }
}
