/** For each promise: ordinary inputs, the edges that the document names, wrong inputs. Answers are worked out by hand. */
public final class PromisesTest {
    private static final int BAD = -1, STATE = -2, FULL = -3, NONE = -9, NO = -1000000;
    private static final int LEAST = Integer.MIN_VALUE, GREATEST = Integer.MAX_VALUE;

    private PromisesTest() {
    }

    public static void main(String[] args) {
        house();
        told();
        deeds();
        rooms();
        noises();
        kindsAndImages();
        Due.end();
    }

    private static void due(String call, long got, long want) {
        Due.due(call, got, want);
    }

    private static QuietByYard at(String letters) {
        return Due.told(letters);
    }

    private static int fault(String letters) {
        QuietByYard yard = new QuietByYard();
        Due.type(yard, letters);
        int answer = yard.house();
        due("letters left of " + letters, yard.count(8), answer < 0 ? letters.length() : 0);
        return answer;
    }

    private static void house() {
        promise1();
        promise2();
        promise3();
        promise4();
        promise4Faults();
        promise4Anew();
    }

    private static void told() {
        promises5To7();
        promise8();
        promise9();
        promise9Leaks();
        promise10();
    }

    private static void deeds() {
        promise11();
        promise12();
        promise13();
        promise14();
        promise15();
    }

    private static void rooms() {
        promise16();
        promise17();
        promise18();
        promise18Ties();
        promise19();
    }

    private static void noises() {
        promise20And21();
        promise22And23();
        promise24();
        promise25();
        promise26And27();
        promise28();
    }

    private static void kindsAndImages() {
        promise29And33();
        promise30And31();
        promise32();
    }

    private static void promise1() {
        Due.sentence("promise 1");
        QuietByYard yard = new QuietByYard();
        int[] counts = {3, 2, 5, 0, 0, 0, 0, 0, 0};
        for (int what = 0; what < counts.length; what++) {
            due("new: count " + what, yard.count(what), counts[what]);
        }
        for (int what = 0; what < 4; what++) {
            due("new: now " + what, yard.now(what), 0);
        }
        due("new: trace", yard.trace(), 0);
        due("new: onCell 5", yard.onCell(5), NONE);
        due("new: onCell 6", yard.onCell(6), BAD);
        due("new: loud", yard.loud(0, 0), 0);
        due("new: undo", yard.undo(), STATE);
        due("new: back 0", yard.back(0), STATE);
        due("new: back 1", yard.back(1), STATE);
    }

    private static void promise2() {
        Due.sentence("promise 2");
        QuietByYard yard = new QuietByYard();
        due("type 0", yard.type(0), 1);
        due("type 255", yard.type(255), 2);
        due("type 256", yard.type(256), BAD);
        due("type -1", yard.type(-1), BAD);
        due("type least", yard.type(LEAST), BAD);
        due("type greatest", yard.type(GREATEST), BAD);
        for (int n = 3; n <= 200; n++) {
            due("type the " + n + "th", yard.type('x'), n);
        }
        due("type the 201st", yard.type('x'), FULL);
        due("type, BAD ahead of FULL", yard.type(256), BAD);
        due("letters", yard.count(8), 200);
        due("house of letters 0, 255, x", yard.house(), -10);
    }

    private static void promise3() {
        Due.sentence("promise 3");
        QuietByYard yard = new QuietByYard();
        due("clear of nothing", yard.clear(), 0);
        Due.type(yard, "n0 5");
        due("clear", yard.clear(), 4);
        due("clear again", yard.clear(), 0);
        Due.type(yard, "f7;");
        due("house behind clear", yard.house(), 1);
        due("fall", yard.count(2), 7);
    }

    private static void promise4() {
        Due.sentence("promise 4");
        due("no text", fault(""), 0);
        due("blanks", fault("   "), 0);
        due("all items", fault(" g 4 3 ; f20;n0 1 0 0;n11 99 23 23;n5 50 0 23;s0 1 1 1;s30 3 3 9;s1 1 1 1;s1 1 1 1;"
            + "r0 0 0 0;r11 23 23 99;r1 1 2 3;"), 12);
        due("g least", fault("g1 1;"), 1);
        due("f least", fault("f1;"), 1);
        due("items without g and f", fault("r5 0 0 0;s1 1 1 1;n5 1 0 0;f5;"), 4);
        due("numbers touch nothing", fault("n 0 7 1 1;"), 1);
        due("nine and ninety-nine", fault("n0 99 9 10;"), 1);
    }

    private static void promise4Faults() {
        Due.sentence("promise 4: faults");
        String[] texts = {
            "x", "f5;x", ";", "5", "g", "g4", "g4 3", "g4 3 ", "g4 3;g", "f5;g4 3;", "n0 5 0 0;f1;f1;",
            "g0 1;", "g5 1;", "g1 0;", "g1 4;", "g1 1 1;", "f0;", "f21;", "f;", "f5", "f5 5;", "f100;", "f05;", "f00;",
            "f 0;", "n6 1 0 0;", "g1 1;n1 1 0 0;", "n0 0 0 0;", "n0 1 24 24;", "n0 1 5 4;", "n0 1 0 24;", "n0 1 0;",
            "n0 1 0 0 0;", "n0 100 0 0;", "s31 1 1 1;", "s1 0 1 1;", "s1 4 1 1;", "s1 1 0 1;", "s1 1 4 1;",
            "s1 1 1 0;", "s1 1 1 10;", "r6 0 0 0;", "r0 24 24 0;", "r0 5 4 0;", "r0 0 24 0;", "r0 0 0 100;",
            "F5;", "f5,", "f5\n;", "f5;  ", "  x", "f5 f6;", "f4294967297;", "f99999999999999999999;", "n0 5 0 0f",
            "\u00e9", "f5;\u00ff",
        };
        int[] places = {
            0, 3, 0, 0, 1, 2, 4, 5, 5, 3, 12,
            1, 1, 3, 3, 5, 1, 1, 1, 2, 3, 1, 1, 1,
            2, 1, 6, 3, 5, 7, 7, 6,
            9, 3, 1, 3, 3, 5, 5,
            7, 7, 1, 3, 5, 5, 7,
            0, 2, 2, -1, 2, 3, 1, 1, 8,
            0, 3,
        };
        due("as many places as texts", places.length, texts.length);
        for (int i = 0; i < texts.length && i < places.length; i++) {
            due("house of " + texts[i], fault(texts[i]), places[i] < 0 ? 1 : -10 - places[i]);
        }
        due("a fourth noise", fault("n0 1 0 0;n0 1 0 0;n0 1 0 0;n0 1 0 0;"), -37);
        due("a fifth sheet", fault("s1 1 1 1;s1 1 1 1;s1 1 1 1;s1 1 1 1;s1 1 1 1;"), -46);
        due("a fourth room", fault("r0 0 0 0;r0 0 0 0;r0 0 0 0;r0 0 0 0;"), -37);
        due("the first of two faults", fault("f21;x"), -11);
        due("an early fault ahead of a wrong letter", fault("f5;f5;x"), -13);
    }

    private static void promise4Anew() {
        Due.sentence("promise 4: anew");
        QuietByYard yard = at("g4 2;f5;n0 60 0 23;s12 1 1 3;r3 0 23 30;");
        yard.lay(0, 1);
        yard.hour();
        yard.hear(0, 5);
        yard.tap(0, 5, 0, 5);
        yard.keep(0);
        yard.keep(1);
        yard.rate(0, 0);
        Due.type(yard, "g4 2;n8 1 0 0;");
        due("a fault", yard.house(), -16);
        due("a fault changes nothing: where", yard.sheet(0, 4), 1);
        due("a fault changes nothing: hour", yard.now(1), 1);
        due("a fault changes nothing: fall", yard.count(2), 5);
        due("a fault changes nothing: heard", yard.count(6), 1);
        due("a fault changes nothing: text", yard.clear(), 14);
        Due.type(yard, "s12 1 1 3;");
        due("anew", yard.house(), 1);
        int[] counts = {3, 2, 5, 0, 1, 0, 0, 0, 0};
        for (int what = 0; what < counts.length; what++) {
            due("anew: count " + what, yard.count(what), counts[what]);
        }
        for (int what = 0; what < 4; what++) {
            due("anew: now " + what, yard.now(what), 0);
        }
        due("anew: where", yard.sheet(0, 4), NONE);
        due("anew: worn", yard.sheet(0, 5), 0);
        due("anew: undo", yard.undo(), STATE);
        due("anew: back 0", yard.back(0), STATE);
        due("anew: back 1", yard.back(1), STATE);
        due("anew: the trace goes on", yard.trace(), 1);
        Due.type(yard, "f9;");
        due("told", yard.house(), 1);
        due("nothing told", yard.house(), 0);
        due("nothing told: fall", yard.count(2), 5);
        due("nothing told: sheets", yard.count(4), 0);
    }

    private static void promises5To7() {
        Due.sentence("promises 5 to 7");
        QuietByYard yard = at("n1 2 3 4;n5 99 0 23;s0 1 2 9;s30 3 1 4;r2 3 4 5;r0 0 0 99;");
        int[] noise = {1, 2, 3, 4};
        int[] sheet = {30, 3, 1, 4, NONE, 0, 30};
        int[] room = {2, 3, 4, 5};
        for (int what = 0; what < 4; what++) {
            due("noise 0 " + what, yard.noise(0, what), noise[what]);
            due("room 0 " + what, yard.room(0, what), room[what]);
        }
        for (int what = 0; what < 7; what++) {
            due("sheet 1 " + what, yard.sheet(1, what), sheet[what]);
        }
        due("noise 1 1", yard.noise(1, 1), 99);
        due("room 1 3", yard.room(1, 3), 99);
        due("sheet 0 2", yard.sheet(0, 2), 2);
        int[] wrong = {LEAST, -1, 7, GREATEST};
        for (int i : wrong) {
            due("noise 0 " + i, yard.noise(0, i), BAD);
            due("noise " + i, yard.noise(i, 0), BAD);
            due("sheet 0 " + i, yard.sheet(0, i), BAD);
            due("sheet " + i, yard.sheet(i, 0), BAD);
            due("room 0 " + i, yard.room(0, i), BAD);
            due("room " + i, yard.room(i, 0), BAD);
        }
        due("noise 2", yard.noise(2, 0), BAD);
        due("noise 0 4", yard.noise(0, 4), BAD);
        due("sheet 2", yard.sheet(2, 0), BAD);
        due("room 2", yard.room(2, 0), BAD);
        due("room 0 4", yard.room(0, 4), BAD);
        yard = at("g1 1;f1;n0 99 0 23;s1 1 1 1;");
        yard.lay(0, 0);
        yard.hour();
        due("worn 9", yard.sheet(0, 5), 9);
        due("worn 9 takes nothing yet", yard.sheet(0, 6), 1);
        yard.hour();
        yard.hour();
        due("worn 27", yard.sheet(0, 5), 27);
        due("never below 0", yard.sheet(0, 6), 0);
        due("where", yard.sheet(0, 4), 0);
    }

    private static void promise8() {
        Due.sentence("promise 8");
        QuietByYard yard = at("g4 3;s5 2 2 1;s5 3 1 1;");
        yard.lay(1, 8);
        yard.lay(0, 1);
        int[] on = {NONE, 0, 0, NONE, NONE, 0, 0, NONE, 1, 1, 1, NONE};
        for (int c = 0; c < on.length; c++) {
            due("onCell " + c, yard.onCell(c), on[c]);
        }
        due("onCell 12", yard.onCell(12), BAD);
        due("onCell -1", yard.onCell(-1), BAD);
        due("onCell least", yard.onCell(LEAST), BAD);
        yard.lift(0);
        due("onCell, taken up", yard.onCell(1), NONE);
    }

    private static void promise9() {
        Due.sentence("promise 9");
        QuietByYard yard = at("g3 2;f5;n0 60 3 5;n5 40 5 6;s30 1 1 1;");
        due("where it is", yard.loud(0, 3), 60);
        due("a step", yard.loud(1, 3), 55);
        due("two and a turn", yard.loud(5, 4), 45);
        due("the greatest of two", yard.loud(5, 5), 45);
        due("the other noise's hour", yard.loud(5, 6), 40);
        due("ahead of its hours", yard.loud(0, 2), 0);
        due("behind its hours", yard.loud(0, 7), 0);
        yard.lay(0, 1);
        due("on the sheet, from 0", yard.loud(1, 3), 25);
        due("a way around: 0 3 4 5 2", yard.loud(2, 3), 40);
        due("a noise on its own sheet", at("f1;n0 9 0 0;").loud(0, 0), 9);
        due("0 at least", at("g3 1;f5;n0 7 0 0;").loud(2, 0), 0);
        due("cell beyond", yard.loud(6, 0), BAD);
        due("cell below", yard.loud(-1, 0), BAD);
        due("hour beyond", yard.loud(0, 24), BAD);
        due("hour below", yard.loud(0, -1), BAD);
        due("wild", yard.loud(LEAST, GREATEST), BAD);
        yard = at("g4 1;f1;n3 50 23 23;");
        due("from the other end", yard.loud(0, 23), 47);
        yard = at("g4 2;f1;n3 50 0 0;");
        due("the row's end is not next to the next row's start", yard.loud(4, 0), 46);
    }

    private static void promise9Leaks() {
        Due.sentence("promise 9: leaks");
        QuietByYard yard = at("g4 1;f5;n0 90 0 0;s10 1 1 1;s7 1 1 1;s9 2 1 1;");
        yard.lay(0, 1);
        yard.lay(1, 2);
        due("onto the first sheet", yard.loud(1, 0), 75);
        due("half of 7 is 3, from another sheet", yard.loud(2, 0), 67);
        due("off it", yard.loud(3, 0), 62);
        yard.undo();
        yard.lay(2, 2);
        due("half of 9 is 4", yard.loud(2, 0), 66);
        due("all of it within one sheet", yard.loud(3, 0), 52);
        yard = at("g2 1;f5;n0 90 0 0;s10 1 1 1;s7 1 1 1;");
        yard.lay(0, 0);
        due("the noise's own sheet takes nothing where it is", yard.loud(0, 0), 90);
        yard.lay(1, 1);
        due("from its sheet to another", yard.loud(1, 0), 82);
        yard = at("g2 1;f5;n1 99 0 23;s10 1 1 1;");
        yard.lay(0, 1);
        yard.hour();
        yard.hour();
        due("18 worn: 9 are left", yard.hired(0, 1, 1), 15);
    }

    private static void promise10() {
        Due.sentence("promise 10");
        QuietByYard yard = at("s1 1 1 1;s1 1 1 1;s1 1 1 1;");
        yard.lay(2, 0);
        due("bits", yard.now(2), 4);
        yard.lay(0, 1);
        due("bits of two", yard.now(2), 5);
        for (int i = 0; i < 25; i++) {
            yard.hour();
        }
        due("day", yard.now(0), 1);
        due("hour", yard.now(1), 1);
        due("ten at most", yard.now(3), 10);
        due("now 4", yard.now(4), BAD);
        due("now -1", yard.now(-1), BAD);
        due("now least", yard.now(LEAST), BAD);
    }

    private static void promise11() {
        Due.sentence("promise 11");
        QuietByYard yard = at("g4 3;s1 2 2 1;s1 3 1 1;s1 1 3 1;s1 1 1 1;");
        due("beyond the row's end", yard.lay(0, 3), STATE);
        due("beyond the last row", yard.lay(0, 8), STATE);
        due("three wide at 2", yard.lay(1, 2), STATE);
        due("three wide at 1", yard.lay(1, 1), 1);
        due("twice", yard.lay(1, 9), STATE);
        due("three long at 4", yard.lay(2, 4), STATE);
        due("three long at 0", yard.lay(2, 0), 2);
        due("on another with one cell", yard.lay(0, 2), STATE);
        due("beside others", yard.lay(0, 5), 3);
        due("where", yard.sheet(0, 4), 5);
        due("one on another", yard.lay(3, 10), STATE);
        due("one free", yard.lay(3, 11), 4);
        due("four may be undone", yard.now(3), 4);
        due("sheet 4", yard.lay(4, 0), BAD);
        due("sheet -1", yard.lay(-1, 0), BAD);
        due("cell 12", yard.lay(0, 12), BAD);
        due("cell -1", yard.lay(3, -1), BAD);
        due("BAD ahead of STATE", yard.lay(0, LEAST), BAD);
        due("wild", yard.lay(GREATEST, GREATEST), BAD);
        due("too wide for the house", at("g2 2;s1 3 1 1;").lay(0, 0), STATE);
        due("too long for the house", at("g2 2;s1 1 3 1;").lay(0, 0), STATE);
    }

    private static void promise12() {
        Due.sentence("promise 12");
        QuietByYard yard = at("g4 3;s1 2 2 1;s1 1 1 1;");
        due("not laid", yard.lift(0), STATE);
        yard.lay(0, 6);
        yard.lay(1, 0);
        due("where it was", yard.lift(0), 6);
        due("not laid any more", yard.sheet(0, 4), NONE);
        due("again", yard.lift(0), STATE);
        due("cell 0 is a cell", yard.lift(1), 0);
        due("sheet 2", yard.lift(2), BAD);
        due("sheet -1", yard.lift(-1), BAD);
        due("wild", yard.lift(LEAST), BAD);
        due("four deeds", yard.now(3), 4);
    }

    private static void promise13() {
        Due.sentence("promise 13");
        QuietByYard yard = at("g1 1;n0 90 0 0;s9 1 1 1;");
        yard.lay(0, 0);
        yard.hour();
        due("9 worn, half is 4", yard.turn(0), 4);
        due("half is 2", yard.turn(0), 2);
        yard.lift(0);
        due("not laid: turned none the less", yard.turn(0), 1);
        due("0", yard.turn(0), 0);
        due("0 again", yard.turn(0), 0);
        due("all are deeds", yard.now(3), 8);
        due("sheet 1", yard.turn(1), BAD);
        due("sheet -1", yard.turn(-1), BAD);
        due("wild", yard.turn(GREATEST), BAD);
    }

    private static void promise14() {
        Due.sentence("promise 14");
        QuietByYard yard = at("g3 1;f5;n0 60 0 0;n0 39 22 23;s20 2 1 1;s20 1 1 1;");
        yard.lay(0, 1);
        due("hour 1", yard.hour(), 1);
        due("loudest on cell 1: 35", yard.sheet(0, 5), 3);
        due("not laid: not worn", yard.sheet(1, 5), 0);
        due("hour 2", yard.hour(), 2);
        due("a silent hour wears nothing", yard.sheet(0, 5), 3);
        for (int hour = 3; hour < 24; hour++) {
            due("hour " + hour, yard.hour(), hour);
        }
        due("22: 39 less 25 is 14", yard.sheet(0, 5), 4);
        due("hour 0", yard.hour(), 0);
        due("the next day", yard.now(0), 1);
        due("and again", yard.sheet(0, 5), 5);
        allWearAtOnce();
    }

    /** In the second hour sheet 0 wears through; sheet 1 hears that hour through it as it was ahead. */
    private static void allWearAtOnce() {
        QuietByYard yard = at("g3 1;f1;n0 86 0 23;s1 1 1 1;s9 1 1 1;");
        yard.lay(0, 1);
        yard.lay(1, 2);
        yard.hour();
        due("84 by 10", yard.sheet(0, 5), 8);
        due("79 by 10", yard.sheet(1, 5), 7);
        yard.hour();
        due("worn through", yard.sheet(0, 5) * 10 + yard.sheet(0, 6), 160);
        due("79 again, not 80", yard.sheet(1, 5), 14);
        yard.hour();
        due("80 now", yard.sheet(1, 5), 22);
    }

    private static void promise15() {
        Due.sentence("promise 15");
        QuietByYard yard = at("g1 1;n0 90 0 23;s9 1 1 1;");
        due("none", yard.undo(), STATE);
        yard.lay(0, 0);
        yard.lay(0, 0);
        yard.lift(1);
        due("refused calls are no deeds", yard.now(3), 1);
        yard.hour();
        yard.turn(0);
        yard.lift(0);
        due("lift undone", yard.undo(), 3);
        due("laid again", yard.sheet(0, 4), 0);
        due("turn undone", yard.undo(), 2);
        due("worn again", yard.sheet(0, 5), 9);
        due("hour undone", yard.undo(), 1);
        due("not worn", yard.sheet(0, 5), 0);
        due("hour 0", yard.now(1), 0);
        due("lay undone", yard.undo(), 0);
        due("not laid", yard.sheet(0, 4), NONE);
        due("none any more", yard.undo(), STATE);
        for (int i = 0; i < 25; i++) {
            yard.hour();
        }
        for (int left = 9; left >= 0; left--) {
            due("undo an hour", yard.undo(), left);
        }
        due("older ones are lost", yard.undo(), STATE);
        due("day 0 again", yard.now(0), 0);
        due("hour 15", yard.now(1), 15);
        yard.hear(0, 1);
        due("hear is no deed", yard.undo(), STATE);
    }

    private static void promise16() {
        Due.sentence("promise 16");
        QuietByYard yard = at("g2 1;f5;n0 60 9 12;r1 0 10 55;r1 11 23 54;r0 0 9 59;s10 1 1 1;");
        due("the first room that is waked", yard.waked(0), 1);
        due("its first hour", yard.waked(1), 11);
        yard.lay(0, 1);
        due("MOST is still, 55 at most; room 2 is not", yard.waked(0), 2);
        due("hour 9", yard.waked(1), 9);
        yard = at("g2 1;f5;n0 60 5 6;n0 70 8 9;r1 0 23 60;");
        due("the louder hour alone", yard.waked(1), 8);
        for (int i = 0; i < 12; i++) {
            yard.hour();
        }
        due("of a day, from 0", yard.waked(1), 8);
        yard = at("g1 1;n0 60 5 6;n0 61 8 9;r0 0 23 60;");
        due("MOST itself wakes nobody", yard.waked(1), 8);
        yard = at("n0 60 5 6;r0 7 23 0;r0 0 4 0;");
        due("all still", yard.waked(0), NONE);
        due("no hour", yard.waked(1), NONE);
        due("waked 2", yard.waked(2), BAD);
        due("waked -1", yard.waked(-1), BAD);
        due("wild", yard.waked(LEAST), BAD);
    }

    private static void promise17() {
        Due.sentence("promise 17");
        QuietByYard yard = at("g2 1;f5;n0 50 0 0;s1 1 1 1;s1 1 1 1;s0 1 1 1;");
        due("none laid", yard.through(0), NONE);
        yard.lay(0, 0);
        due("5 a day: 10 behind the second day's first hour", yard.through(0), 25);
        due("sheet 0", yard.through(1), 0);
        yard.lay(1, 1);
        due("44: 4 a day, slower", yard.through(1), 0);
        yard.lift(0);
        due("45 less 1 by 10 is 4 a day: 3 days", yard.through(0), 49);
        due("sheet 1", yard.through(1), 1);
        yard.hour();
        due("from now", yard.through(0), 48);
        due("nothing is changed", yard.now(0) * 100 + yard.now(1) * 10 + yard.sheet(1, 5), 14);
        yard = at("g1 1;n0 99 0 23;s0 1 1 1;");
        yard.lay(0, 0);
        due("it is so already", yard.through(0), NONE);
        yard = at("g1 1;n0 10 0 23;s24 1 1 1;");
        yard.lay(0, 0);
        due("240 hours", yard.through(0), 240);
        yard.undo();
        yard = at("g1 1;n0 10 0 23;s25 1 1 1;");
        yard.lay(0, 0);
        due("250 hours are too many", yard.through(0), NONE);
        due("no sheet", yard.through(1), NONE);
        yard = at("g1 1;n0 50 0 0;s6 1 1 1;");
        yard.lay(0, 0);
        for (int i = 0; i < 24; i++) {
            yard.hour();
        }
        due("5 worn and 5 a day: 241 hours", yard.through(0), NONE);
        yard.hour();
        due("behind one more: 240", yard.through(0), 240);
        yard = at("g2 1;f1;n0 22 0 23;s2 1 1 1;");
        yard.lay(0, 1);
        due("19 is 1 for ten hours; then 20, as it is thinner, is 2", yard.through(0), 15);
        yard = at("g1 2;f1;n0 99 0 23;n1 99 0 23;s3 1 1 1;s3 1 1 1;");
        yard.lay(1, 0);
        yard.lay(0, 1);
        due("both in one hour", yard.through(0), 4);
        due("the least of several", yard.through(1), 0);
        due("through 2", yard.through(2), BAD);
        due("through -1", yard.through(-1), BAD);
        due("wild", yard.through(GREATEST), BAD);
    }

    private static void promise18() {
        Due.sentence("promise 18");
        QuietByYard yard = at("g2 2;f5;n0 20 0 5;s5 1 1 2;s9 2 1 3;r3 0 5 9;");
        due("price", yard.toBuy(NONE), 2);
        due("on cell 3", yard.toBuy(0), 3);
        due("not this one", yard.toBuy(1), -5);
        yard.lay(1, 0);
        due("laid", yard.toBuy(1), BAD);
        yard.lay(0, 3);
        due("nothing is needed", yard.toBuy(NONE), 0);
        yard.lift(0);
        yard.lift(1);
        due("nothing is laid by asking", yard.now(2), 0);
        due("sheet 2", yard.toBuy(2), BAD);
        due("sheet -1", yard.toBuy(-1), BAD);
        due("sheet -5", yard.toBuy(-5), BAD);
        due("wild", yard.toBuy(LEAST), BAD);
        yard = at("g2 1;n0 20 0 0;s30 1 1 1;r0 0 0 19;");
        due("no sheet helps where the noise is", yard.toBuy(NONE), NONE);
        due("nor where", yard.toBuy(0), NONE);
        due("BAD ahead of NONE", yard.toBuy(1), BAD);
        yard = at("g2 1;n0 20 0 0;s30 1 1 1;r0 1 23 0;");
        due("all still: nothing to buy", yard.toBuy(NONE), 0);
        due("not bought", yard.toBuy(0), -5);
        yard = at("g4 1;f1;n0 60 0 0;s10 1 1 1;s10 1 1 1;s10 1 1 1;r3 0 0 27;");
        due("no two are enough", yard.toBuy(NONE), NONE);
        yard.lay(1, 1);
        due("nor with one that lies", yard.toBuy(NONE), NONE);
        yard = at("g4 1;f1;n0 60 0 0;s10 1 1 1;s10 1 1 1;r3 0 0 37;");
        due("two that do not touch", yard.toBuy(NONE), 2);
        due("the first on 1", yard.toBuy(0), 1);
        due("the second on 3: beside the first it would leak", yard.toBuy(1), 3);
        yard.lay(0, 1);
        due("what lies counts: one more", yard.toBuy(NONE), 1);
        due("on 3", yard.toBuy(1), 3);
        yard.undo();
        yard.lay(0, 2);
        due("beside what lies it would leak: none", yard.toBuy(NONE), NONE);
    }

    private static void promise18Ties() {
        Due.sentence("promise 18: ties");
        QuietByYard edge = at("g4 3;f1;n1 20 0 0;n10 20 0 0;s9 1 1 3;s9 1 1 4;s9 1 1 5;s9 1 1 6;r0 0 0 10;r11 0 0 10;");
        due("in both corners", edge.toBuy(NONE), 7);
        due("on the first cell", edge.toBuy(0), 0);
        due("on the last cell", edge.toBuy(1), 11);
        due("not sheet 2", edge.toBuy(2), -5);
        due("not sheet 3", edge.toBuy(3), -5);
        edge = at("g4 1;s1 1 1 1;s1 1 1 1;s1 1 1 1;s1 1 1 1;");
        due("nothing is needed: not sheet 3", edge.toBuy(3), -5);
        edge = at("g4 1;f1;n0 60 0 0;s10 1 1 1;r3 0 0 37;");
        due("one sheet is not two", edge.toBuy(NONE), NONE);
        edge = at("g2 1;f1;n1 20 0 0;s3 1 1 9;s3 1 1 9;s3 1 1 9;s9 1 1 9;r0 0 0 10;");
        due("the last sheet", edge.toBuy(3), 0);
        due("not the first", edge.toBuy(0), -5);
        QuietByYard yard = at("g3 1;f1;n0 20 0 0;s5 1 1 2;s5 1 1 2;r2 0 0 13;");
        due("of one price", yard.toBuy(NONE), 2);
        due("not laid ahead of laid: sheet 0 is not", yard.toBuy(0), -5);
        due("the lesser cell", yard.toBuy(1), 1);
        yard = at("g3 1;f1;n0 20 0 0;s5 1 1 5;s3 1 1 2;s3 1 1 3;r2 0 0 13;");
        due("two of 5 and one of 5", yard.toBuy(NONE), 5);
        due("the dear one alone (3 and half of 3 are not 5)", yard.toBuy(0), 1);
        yard = at("g4 1;f1;n0 20 0 0;s6 1 1 5;s3 1 1 2;s3 1 1 3;r3 0 0 11;");
        due("one of 5 or two of 2 and 3", yard.toBuy(NONE), 5);
        due("sheet 0 is not laid", yard.toBuy(0), -5);
        due("sheet 1", yard.toBuy(1), 1);
        due("sheet 2", yard.toBuy(2), 3);
        yard = at("g2 1;f1;n0 99 0 23;s6 1 1 1;s9 1 1 5;r1 0 23 92;");
        yard.lay(0, 0);
        yard.hour();
        yard.hour();
        yard.lift(0);
        due("a worn sheet is as thick as it is now", yard.toBuy(NONE), 5);
    }

    private static void promise19() {
        Due.sentence("promise 19");
        QuietByYard yard = at("g3 1;f5;n0 60 2 3;n0 90 20 20;s10 1 1 1;s7 1 1 1;r2 0 5 0;r2 0 23 99;r1 5 9 0;");
        due("not laid", yard.gain(0), NO);
        yard.lay(0, 1);
        due("10 in each of two rooms that hear", yard.gain(0), 20);
        yard.lay(1, 2);
        due("3 on 2, as it leaks", yard.gain(1), 6);
        due("10, but without it 7 for 3", yard.gain(0), 12);
        yard = at("g3 1;f1;n0 90 0 0;s0 1 1 1;s30 1 1 1;r2 0 0 0;");
        yard.lay(0, 1);
        yard.lay(1, 2);
        due("it helps a leak: less than 0", yard.gain(0), -15);
        yard = at("g1 1;s1 1 1 1;");
        yard.lay(0, 0);
        due("no rooms", yard.gain(0), 0);
        due("sheet 1", yard.gain(1), NO);
        due("sheet -1", yard.gain(-1), NO);
        due("wild", yard.gain(LEAST), NO);
        due("it lies on", yard.sheet(0, 4), 0);
    }

    private static void promise20And21() {
        Due.sentence("promises 20 and 21");
        QuietByYard yard = at("g2 1;");
        due("hear", yard.hear(0, 0), 1);
        due("hear 99", yard.hear(1, 99), 2);
        due("cell 2", yard.hear(2, 0), BAD);
        due("cell -1", yard.hear(-1, 0), BAD);
        due("v -1", yard.hear(0, -1), BAD);
        due("v 100", yard.hear(0, 100), BAD);
        due("the same again", yard.hear(0, 0), 3);
        due("the fourth", yard.hear(0, 0), 4);
        due("the fifth", yard.hear(0, 0), FULL);
        due("BAD ahead of FULL", yard.hear(0, 100), BAD);
        due("heard", yard.count(6), 4);
        due("taps", yard.tap(0, 1, 0, 0), 1);
        due("forget 2", yard.forget(2), BAD);
        due("forget -1", yard.forget(-1), BAD);
        due("forget least", yard.forget(LEAST), BAD);
        due("forget what was heard", yard.forget(0), 4);
        due("taps stay", yard.count(7), 1);
        due("forget again", yard.forget(0), 0);
        yard.hear(0, 7);
        due("forget taps", yard.forget(1), 1);
        due("heard stays", yard.count(6), 1);
        due("no taps", yard.forget(1), 0);
    }

    private static void promise22And23() {
        Due.sentence("promises 22 and 23");
        QuietByYard yard = at("g3 1;f5;n0 99 0 23;s10 1 1 1;");
        due("anywhere", yard.sources(), 7);
        due("99 strengths", yard.strengths(0), 99);
        yard.hear(2, 20);
        due("one strength", yard.strengths(0), 1);
        due("anywhere still", yard.sources(), 7);
        yard.hear(1, 15);
        due("2 alone", yard.sources(), 4);
        due("not at 0", yard.strengths(0), 0);
        yard.lay(0, 2);
        due("with the sheet on 2: 20 at 2, 15 at 1", yard.sources(), 4);
        yard.lift(0);
        yard.lay(0, 1);
        due("with the sheet on 1 it would be 5", yard.sources(), 0);
        yard.forget(0);
        yard.hear(2, 1);
        due("1 heard is one strength", yard.strengths(0), 1);
        yard.lift(0);
        yard.forget(0);
        yard.hear(2, 0);
        due("0 heard: no sheet", yard.strengths(0), 10);
        yard.lay(0, 1);
        due("0 heard: 1 to 20 at 0", yard.strengths(0), 20);
        due("0 heard: 1 to 5 at 1", yard.strengths(1), 5);
        due("0 heard where it is: none", yard.strengths(2), 0);
        due("0 or 1", yard.sources(), 3);
        yard.forget(0);
        yard.hear(2, 79);
        due("just 99", yard.strengths(0), 1);
        yard.forget(0);
        yard.hear(2, 80);
        due("100 is too much", yard.strengths(0), 0);
        yard.hear(2, 0);
        due("both cannot be", yard.sources(), 0);
        due("cell 3", yard.strengths(3), BAD);
        due("cell -1", yard.strengths(-1), BAD);
        due("wild", yard.strengths(GREATEST), BAD);
    }

    private static void promise24() {
        Due.sentence("promise 24");
        QuietByYard yard = at("g3 1;f5;n0 99 0 23;s10 1 1 1;");
        due("no matter what else sounds", yard.hired(0, 2, 1), 11);
        due("at its own cell", yard.hired(1, 1, 7), 7);
        yard.lay(0, 1);
        due("through the sheet", yard.hired(0, 2, 79), 99);
        due("just too much", yard.hired(0, 2, 80), NONE);
        due("from the sheet", yard.hired(1, 2, 80), 85);
        due("onto the sheet", yard.hired(2, 1, 80), 95);
        due("99", yard.hired(0, 0, 99), 99);
        due("an empty house", new QuietByYard().hired(0, 5, 1), 16);
        due("up to the first cell", at("g3 3;f5;").hired(3, 0, 1), 6);
        due("up from the last cell", at("g1 3;f5;").hired(2, 0, 1), 11);
        due("v 0", yard.hired(0, 0, 0), BAD);
        due("v 100", yard.hired(0, 0, 100), BAD);
        due("from 3", yard.hired(3, 0, 1), BAD);
        due("from -1", yard.hired(-1, 0, 1), BAD);
        due("to 3", yard.hired(0, 3, 1), BAD);
        due("to -1", yard.hired(0, -1, 1), BAD);
    }

    private static void promise25() {
        Due.sentence("promise 25");
        QuietByYard yard = at("g3 3;f5;r4 5 6 20;");
        due("straight", yard.way(3, 5, 20), 2);
        due("around the room's cell: 24 beside it is 19", yard.way(3, 5, 24), 4);
        due("25 beside it is 20", yard.way(3, 5, 25), 4);
        due("26 beside it is 21", yard.way(3, 5, 26), NONE);
        due("30 in a corner, nowhere to go", yard.way(0, 0, 30), 0);
        due("30 cannot go on", yard.way(0, 2, 30), NONE);
        due("31 is heard", yard.way(0, 0, 31), NONE);
        due("it ends where it is heard", yard.way(3, 4, 24), NONE);
        due("it begins where it is heard", yard.way(4, 3, 24), NONE);
        due("no rooms", at("g4 3;").way(0, 11, 99), 5);
        due("n 1", yard.way(0, 8, 1), 4);
        due("n 0", yard.way(0, 0, 0), BAD);
        due("n 100", yard.way(0, 0, 100), BAD);
        due("from 9", yard.way(9, 0, 1), BAD);
        due("from -1", yard.way(-1, 0, 1), BAD);
        due("to 9", yard.way(0, 9, 1), BAD);
        due("to -1", yard.way(0, -1, 1), BAD);
        yard = at("g2 1;f5;s10 1 1 1;r1 0 0 20;");
        yard.lay(0, 1);
        due("from the burglar to the room, not back", yard.way(0, 0, 35), 0);
        due("36", yard.way(0, 0, 36), NONE);
    }

    private static void promise26And27() {
        Due.sentence("promises 26 and 27");
        QuietByYard yard = at("g4 1;f5;s10 1 1 1;s8 1 1 1;s3 1 1 1;");
        due("none laid", yard.mayBe(), 0);
        yard.lay(0, 1);
        yard.lay(1, 3);
        due("no taps: any that is laid", yard.mayBe(), 3);
        due("a tap", yard.tap(0, 50, 1, 45), 1);
        due("sheet 0 takes nothing", yard.mayBe(), 1);
        due("another", yard.tap(0, 50, 3, 27), 2);
        due("50 less 15 less 8", yard.mayBe(), 1);
        yard.forget(1);
        yard.tap(0, 50, 1, 35);
        due("sheet 0 is none: sheet 1", yard.mayBe(), 2);
        yard.tap(0, 50, 3, 25);
        due("and 1 takes nothing", yard.mayBe(), 2);
        yard.tap(2, 50, 3, 37);
        due("not both", yard.mayBe(), 0);
        yard.forget(1);
        yard.tap(0, 5, 3, 0);
        due("silent by either", yard.mayBe(), 3);
        yard.lay(2, 2);
        yard.forget(1);
        yard.tap(2, 50, 3, 41);
        due("a sham sheet lies there still: half of 8 behind it", yard.mayBe(), 5);
        due("n 0", yard.tap(0, 0, 0, 0), BAD);
        due("n 100", yard.tap(0, 100, 0, 0), BAD);
        due("from 4", yard.tap(4, 1, 0, 0), BAD);
        due("from -1", yard.tap(-1, 1, 0, 0), BAD);
        due("to 4", yard.tap(0, 1, 4, 0), BAD);
        due("to -1", yard.tap(0, 1, -1, 0), BAD);
        due("v -1", yard.tap(0, 1, 0, -1), BAD);
        due("v 100", yard.tap(0, 1, 0, 100), BAD);
        due("the second", yard.tap(0, 1, 0, 0), 2);
        due("the third", yard.tap(0, 1, 0, 99), 3);
        due("the fourth", yard.tap(0, 99, 0, 0), 4);
        due("the fifth", yard.tap(0, 1, 0, 0), FULL);
        due("BAD ahead of FULL", yard.tap(0, 1, 0, 100), BAD);
        due("taps", yard.count(7), 4);
    }

    private static void promise28() {
        Due.sentence("promise 28");
        QuietByYard yard = at("g2 1;f5;n0 60 0 0;n0 50 5 5;n1 40 9 9;r1 20 20 44;r1 0 0 39;r1 0 0 99;");
        due("55 and 45 are too loud: 7 of 10 twice", yard.odds(0, 3, 0), 49);
        due("of 100", yard.odds(0, 3, 1), 100);
        due("half of half", yard.odds(0, 5, 0) * 100 + yard.odds(0, 5, 1), 104);
        due("all three", yard.odds(1, 1, 0) * 10000 + yard.odds(1, 1, 1), 7291000);
        due("four fifths thrice", yard.odds(1, 2, 0) * 1000 + yard.odds(1, 2, 1), 64125);
        due("never", yard.odds(0, 10, 0) * 10 + yard.odds(0, 10, 1), 1);
        due("none sounds", yard.odds(0, 0, 0) * 10 + yard.odds(0, 0, 1), 11);
        due("it hears all", yard.odds(2, 10, 0) * 10 + yard.odds(2, 10, 1), 11);
        due("room 3", yard.odds(3, 5, 0), BAD);
        due("room -1", yard.odds(-1, 5, 0), BAD);
        due("p 11", yard.odds(0, 11, 0), BAD);
        due("p -1", yard.odds(0, -1, 0), BAD);
        due("what 2", yard.odds(0, 5, 2), BAD);
        due("what -1", yard.odds(0, 5, -1), BAD);
        yard = at("g2 1;f5;n0 60 0 0;s10 1 1 1;r1 0 0 45;");
        due("too loud without", yard.odds(0, 5, 1), 2);
        yard.lay(0, 1);
        due("MOST is no more than MOST", yard.odds(0, 5, 1), 1);
    }

    private static void promise29And33() {
        Due.sentence("promises 29 and 33");
        QuietByYard yard = at("g1 1;n0 95 0 23;s9 1 1 4;s8 1 1 5;");
        yard.lay(0, 0);
        yard.hour();
        yard.hour();
        due("sheet: 9 less 1", yard.rate(0, 0), 8);
        due("trace", yard.trace(), 1);
        due("church", yard.rate(1, 0), 12);
        due("trace", yard.trace(), 12);
        due("snow: 8 less 18", yard.rate(2, 0), -10);
        due("trace", yard.trace(), 113);
        due("crypt: twice 12", yard.rate(3, 0), 24);
        due("trace", yard.trace(), 1124);
        due("slush of 1", yard.rate(4, 1), 9);
        due("trace", yard.trace(), 11225);
        due("bell", yard.rate(5, 1), 10);
        due("trace", yard.trace(), 111226);
        due("kind 6", yard.rate(6, 0), NO);
        due("kind -1", yard.rate(-1, 0), NO);
        due("sheet 2", yard.rate(0, 2), NO);
        due("sheet -1", yard.rate(0, -1), NO);
        due("wild", yard.rate(LEAST, GREATEST), NO);
        due("refused calls leave no trace", yard.trace(), 111226);
    }

    private static void promise30And31() {
        Due.sentence("promises 30 and 31");
        QuietByYard yard = at("g2 1;n0 95 0 23;s9 1 1 4;");
        for (int i = 0; i < 30; i++) {
            yard.hour();
        }
        due("keep: the day", yard.keep(0), 1);
        yard.lay(0, 0);
        yard.hour();
        due("keep 1", yard.keep(1), 1);
        yard.hear(0, 5);
        yard.tap(0, 5, 0, 5);
        yard.lift(0);
        yard.turn(0);
        for (int i = 0; i < 24; i++) {
            yard.hour();
        }
        due("day 2", yard.now(0), 2);
        due("back", yard.back(1), 1);
        due("hour", yard.now(1), 7);
        due("where", yard.sheet(0, 4), 0);
        due("worn", yard.sheet(0, 5), 9);
        due("nothing to undo", yard.now(3), 0);
        due("undo", yard.undo(), STATE);
        due("what was heard stays", yard.count(6), 1);
        due("taps stay", yard.count(7), 1);
        due("back 0", yard.back(0), 1);
        due("not laid", yard.sheet(0, 4), NONE);
        due("not worn", yard.sheet(0, 5), 0);
        yard.hour();
        due("an image stays as it was", yard.back(0) * 100 + yard.now(1), 106);
        yard.hour();
        due("keep does not forget deeds", yard.keep(0) * 10 + yard.now(3), 11);
        due("kept anew", yard.back(0) * 100 + yard.now(1), 107);
        int[] wrong = {LEAST, -1, 2, GREATEST};
        for (int image : wrong) {
            due("keep " + image, yard.keep(image), BAD);
            due("back " + image, yard.back(image), BAD);
        }
        twoSheetsInAnImage();
        yard = at("");
        yard.keep(1);
        due("0 was not kept", yard.back(0), STATE);
        due("1 was", yard.back(1), 0);
    }

    private static void twoSheetsInAnImage() {
        QuietByYard yard = at("g2 2;f20;n1 99 0 23;s1 1 1 1;s9 1 1 1;s2 2 1 1;");
        yard.lay(2, 2);
        yard.lay(1, 1);
        yard.hour();
        yard.keep(1);
        yard.lift(1);
        yard.turn(1);
        yard.turn(2);
        due("a deed undone", yard.undo(), 5);
        due("two deeds undone", yard.undo(), 4);
        due("worn by 99", yard.sheet(1, 5), 9);
        due("worn by 99 less 22", yard.sheet(2, 5), 7);
        yard.turn(1);
        yard.turn(2);
        yard.lift(2);
        yard.back(1);
        due("sheet 0 was not laid", yard.sheet(0, 4), NONE);
        due("sheet 1 was on 1", yard.sheet(1, 4), 1);
        due("sheet 2 was on 2", yard.sheet(2, 4), 2);
        due("sheet 1 as worn", yard.sheet(1, 5), 9);
        due("sheet 2 as worn", yard.sheet(2, 5), 7);
    }

    private static void promise32() {
        Due.sentence("promise 32");
        QuietByYard yard = at("g4 1;f7;n0 1 0 0;n0 1 0 0;s1 1 1 1;s1 1 1 1;s1 1 1 1;r0 0 0 0;");
        yard.hear(0, 0);
        yard.hear(0, 0);
        yard.tap(0, 1, 0, 0);
        Due.type(yard, "f5 ");
        int[] counts = {4, 1, 7, 2, 3, 1, 2, 1, 3};
        for (int what = 0; what < counts.length; what++) {
            due("count " + what, yard.count(what), counts[what]);
        }
        due("count 9", yard.count(9), BAD);
        due("count -1", yard.count(-1), BAD);
        due("count least", yard.count(LEAST), BAD);
    }
}
