/**
 * Terms, part 4 (kinds of sheets, the trace, images, reading anew), and what promises 29 to 33 say of
 * them: a test for each sentence that names an edge. Answers are worked out by hand.
 */
public final class Terms4Test {
    private static final int BAD = -1, STATE = -2, NONE = -9, NO = -1000000;

    private Terms4Test() {
    }

    public static void main(String[] args) {
        kinds();
        trace();
        images();
        readAnew();
        counts();
        Due.end();
    }

    private static void kinds() {
        asSheet();
        asChurch();
        asSnow();
        asCrypt();
        asSlush();
        asBell();
        kindsRefused();
    }

    private static void trace() {
        traceAtFirst();
        traceOfEachKind();
        traceAddsUp();
        traceOfRefusedCalls();
        traceStays();
    }

    private static void images() {
        imagesNotKept();
        imagesOfEachOther();
        imageOfAllOfNow();
        imageOfNothingElse();
        imageKeptAnew();
        imageStaysAsItWas();
        keepIsNoDeed();
        nothingUndoneBehindBack();
        imagesRefused();
    }

    private static void readAnew() {
        anewAsTold();
        anewNothingHeard();
        anewNoImages();
        notAnewByAFault();
    }

    private static void counts() {
        countsEdges();
        nowEdges();
    }

    private static void due(String call, long got, long want) {
        Due.due(call, got, want);
    }

    private static QuietByYard told(String letters) {
        return Due.told(letters);
    }

    private static void pass(QuietByYard yard, int hours) {
        for (int i = 0; i < hours; i++) {
            yard.hour();
        }
    }

    /** Two hours gone by; sheet 0, 9 thick at price 4, is worn by 18; sheet 3, 30 thick at price 9, is not laid. */
    private static QuietByYard worn() {
        QuietByYard yard = told("g1 1;n0 95 0 23;s9 1 1 4;s0 1 1 1;s1 1 1 5;s30 1 1 9;");
        yard.lay(0, 0);
        pass(yard, 2);
        return yard;
    }

    // ---- kinds

    private static void asSheet() {
        Due.sentence("SHEET its THICK NOW (1)");
        QuietByYard yard = worn();
        due("9 less 1", yard.rate(0, 0), 8);
        due("0", yard.rate(0, 1), 0);
        due("30", yard.rate(0, 3), 30);
        due("trace", yard.trace(), 3);
    }

    private static void asChurch() {
        Due.sentence("CHURCH up, and PRICE (10)");
        QuietByYard yard = worn();
        due("8 and 4", yard.rate(1, 0), 12);
        due("0 and 1", yard.rate(1, 1), 1);
        due("30 and 9", yard.rate(1, 3), 39);
        due("trace", yard.trace(), 33);
    }

    private static void asSnow() {
        Due.sentence("SNOW up less WORN (100)");
        QuietByYard yard = worn();
        due("8 less 18, below 0", yard.rate(2, 0), -10);
        due("30 less 0", yard.rate(2, 3), 30);
        due("trace", yard.trace(), 202);
    }

    private static void asCrypt() {
        Due.sentence("CRYPT twice up (1000)");
        QuietByYard yard = worn();
        due("twice 12", yard.rate(3, 0), 24);
        due("twice 1", yard.rate(3, 1), 2);
        due("twice 39", yard.rate(3, 3), 78);
        due("trace: each body once", yard.trace(), 3033);
    }

    private static void asSlush() {
        Due.sentence("SLUSH up, and its number (10000)");
        QuietByYard yard = worn();
        due("-10 and 0", yard.rate(4, 0), -10);
        due("0 and 1", yard.rate(4, 1), 1);
        due("1 and 2", yard.rate(4, 2), 3);
        due("30 and 3", yard.rate(4, 3), 33);
        due("trace", yard.trace(), 40404);
    }

    private static void asBell() {
        Due.sentence("BELL up, and the HOUR (100000)");
        QuietByYard yard = worn();
        due("8 and 2", yard.rate(5, 0), 10);
        yard.lift(0);
        pass(yard, 21);
        due("30 and 23", yard.rate(5, 3), 53);
        pass(yard, 1);
        due("30 and 0", yard.rate(5, 3), 30);
        due("trace", yard.trace(), 300003);
    }

    private static void kindsRefused() {
        Due.sentence("RATE. NO: BAD");
        QuietByYard yard = worn();
        due("kind 6", yard.rate(6, 0), NO);
        due("kind -1", yard.rate(-1, 0), NO);
        due("sheet 4", yard.rate(0, 4), NO);
        due("sheet -1", yard.rate(0, -1), NO);
        due("none told", told("").rate(0, 0), NO);
        due("not laid", yard.rate(0, 2), 1);
    }

    // ---- the trace

    private static void traceAtFirst() {
        Due.sentence("THE TRACE, 0 at first");
        due("new", new QuietByYard().trace(), 0);
        due("told", told("s1 1 1 1;").trace(), 0);
    }

    private static void traceOfEachKind() {
        Due.sentence("numbers in brackets are added to THE TRACE, each once");
        int[] traces = {1, 11, 101, 1011, 10101, 100001};
        for (int kind = 0; kind < traces.length; kind++) {
            QuietByYard yard = told("s1 1 1 1;");
            yard.rate(kind, 0);
            due("of kind " + kind, yard.trace(), traces[kind]);
            yard.rate(kind, 0);
            due("twice", yard.trace(), 2L * traces[kind]);
        }
    }

    private static void traceAddsUp() {
        Due.sentence("added, as often as rate() asks that body");
        QuietByYard yard = told("s1 1 1 1;");
        for (int i = 0; i < 60; i++) {
            for (int kind = 0; kind < 6; kind++) {
                yard.rate(kind, 0);
            }
        }
        due("60 times 6 kinds", yard.trace(), 60L * (6 + 20 + 200 + 1000 + 10000 + 100000));
    }

    private static void traceOfRefusedCalls() {
        Due.sentence("Refused, and nothing changes: rate()");
        QuietByYard yard = told("s1 1 1 1;");
        yard.rate(5, 0);
        yard.rate(6, 0);
        yard.rate(-1, 0);
        yard.rate(5, 1);
        yard.rate(5, -1);
        due("trace", yard.trace(), 100001);
    }

    private static void traceStays() {
        Due.sentence("IMAGES keep NOW, nothing else: THE TRACE");
        QuietByYard yard = told("s1 1 1 1;");
        yard.keep(0);
        yard.hour();
        yard.rate(1, 0);
        yard.undo();
        due("behind undo()", yard.trace(), 11);
        yard.back(0);
        due("behind back()", yard.trace(), 11);
        Due.type(yard, "f1;");
        yard.house();
        due("told anew", yard.trace(), 11);
    }

    // ---- images

    private static void imagesNotKept() {
        Due.sentence("back(): STATE: none was kept");
        QuietByYard yard = new QuietByYard();
        due("0", yard.back(0), STATE);
        due("1", yard.back(1), STATE);
        due("keep 1", yard.keep(1), 0);
        due("0 still", yard.back(0), STATE);
        due("1", yard.back(1), 0);
        due("again", yard.back(1), 0);
        due("keep 0", yard.keep(0), 0);
        due("0", yard.back(0), 0);
    }

    private static void imagesOfEachOther() {
        Due.sentence("IMAGES 0, 1");
        QuietByYard yard = new QuietByYard();
        yard.hour();
        yard.keep(0);
        yard.hour();
        yard.keep(1);
        yard.hour();
        yard.back(0);
        due("0", yard.now(1), 1);
        yard.back(1);
        due("1", yard.now(1), 2);
        yard.back(0);
        due("0 again", yard.now(1), 1);
    }

    private static void imageOfAllOfNow() {
        Due.sentence("IMAGES keep NOW (DAY, HOUR, where SHEETS are LAID, WORN)");
        QuietByYard yard = told("g4 1;f1;n0 50 0 23;s9 1 1 1;s8 1 1 1;s7 1 1 1;s6 1 1 1;");
        yard.lay(0, 0);
        pass(yard, 3);
        yard.lift(0);
        yard.lay(3, 1);
        pass(yard, 24);
        due("keep: the day", yard.keep(0), 1);
        int wornOf3 = yard.sheet(3, 5);
        due("49 less 6: 4 an hour, 5 below 6 thick is never", wornOf3 >= 24 * 4 ? 1 : 0, 1);
        yard.turn(0);
        yard.turn(3);
        yard.lift(3);
        yard.lay(1, 3);
        yard.lay(2, 2);
        pass(yard, 50);
        due("back: the day", yard.back(0), 1);
        due("day", yard.now(0), 1);
        due("hour", yard.now(1), 3);
        due("laid", yard.now(2), 8);
        int[] cells = {NONE, NONE, NONE, 1};
        int[] worn = {15, 0, 0, wornOf3};
        for (int s = 0; s < cells.length; s++) {
            due("where is " + s, yard.sheet(s, 4), cells[s]);
            due("worn is " + s, yard.sheet(s, 5), worn[s]);
        }
        due("on 1", yard.onCell(1), 3);
        due("on 2", yard.onCell(2), NONE);
    }

    private static void imageOfNothingElse() {
        Due.sentence("IMAGES keep nothing else");
        QuietByYard yard = told("g1 1;s9 1 1 1;");
        yard.hear(0, 1);
        yard.keep(0);
        yard.hear(0, 1);
        yard.tap(0, 1, 0, 1);
        yard.rate(0, 0);
        Due.type(yard, "f9");
        yard.back(0);
        due("heard", yard.count(6), 2);
        due("taps", yard.count(7), 1);
        due("trace", yard.trace(), 1);
        due("letters", yard.count(8), 2);
        yard.forget(0);
        yard.forget(1);
        yard.clear();
        yard.back(0);
        due("heard", yard.count(6), 0);
        due("taps", yard.count(7), 0);
        due("letters", yard.count(8), 0);
    }

    private static void imageKeptAnew() {
        Due.sentence("An IMAGE is kept (again)");
        QuietByYard yard = told("g1 1;s9 1 1 1;");
        yard.keep(0);
        yard.hour();
        yard.lay(0, 0);
        yard.keep(0);
        yard.lift(0);
        yard.hour();
        due("back", yard.back(0), 0);
        due("the later one: hour", yard.now(1), 1);
        due("the later one: where", yard.sheet(0, 4), 0);
    }

    private static void imageStaysAsItWas() {
        Due.sentence("All of that becomes as an IMAGE has it (each time)");
        QuietByYard yard = told("g1 1;n0 99 0 23;s9 1 1 1;");
        yard.lay(0, 0);
        yard.keep(1);
        for (int time = 0; time < 3; time++) {
            pass(yard, 25);
            yard.turn(0);
            yard.lift(0);
            due("back", yard.back(1), 0);
            due("where", yard.sheet(0, 4), 0);
            due("worn", yard.sheet(0, 5), 0);
            due("hour", yard.now(1), 0);
        }
    }

    private static void keepIsNoDeed() {
        Due.sentence("nothing can be UNDONE behind back() (behind keep() it can)");
        QuietByYard yard = new QuietByYard();
        pass(yard, 2);
        yard.keep(0);
        due("two", yard.now(3), 2);
        due("undone", yard.undo(), 1);
        due("hour 1", yard.now(1), 1);
        due("the image is of hour 2", yard.back(0) + yard.now(1), 2);
    }

    private static void nothingUndoneBehindBack() {
        Due.sentence("nothing can be UNDONE behind back()");
        QuietByYard yard = new QuietByYard();
        pass(yard, 12);
        due("not kept", yard.back(0), STATE);
        due("that forgets no deeds", yard.now(3), 10);
        due("no image", yard.back(2), BAD);
        due("nor does that", yard.now(3), 10);
        yard.keep(0);
        yard.back(0);
        due("none", yard.now(3), 0);
        due("undo", yard.undo(), STATE);
        yard.hour();
        due("what is done then can be", yard.now(3), 1);
        due("undone", yard.undo(), 0);
        due("hour 12", yard.now(1), 12);
        due("no more", yard.undo(), STATE);
    }

    private static void imagesRefused() {
        Due.sentence("keep(), back(): BAD");
        QuietByYard yard = new QuietByYard();
        due("keep 2", yard.keep(2), BAD);
        due("keep -1", yard.keep(-1), BAD);
        due("back 2", yard.back(2), BAD);
        due("back -1", yard.back(-1), BAD);
    }

    // ---- read anew

    private static QuietByYard busy() {
        QuietByYard yard = told("g4 2;f7;n0 60 0 23;s12 1 1 3;r3 0 23 30;");
        yard.lay(0, 1);
        pass(yard, 26);
        yard.hear(0, 0);
        yard.tap(0, 5, 0, 4);
        yard.keep(0);
        yard.keep(1);
        return yard;
    }

    private static void anewAsTold() {
        Due.sentence("Read anew: as told");
        QuietByYard yard = busy();
        Due.type(yard, "n5 40 0 23;s12 1 1 3;s9 1 1 3;");
        due("items", yard.house(), 3);
        int[] counts = {3, 2, 5, 1, 2, 0, 0, 0, 0};
        for (int what = 0; what < counts.length; what++) {
            due("count " + what, yard.count(what), counts[what]);
        }
        for (int what = 0; what < 4; what++) {
            due("now " + what, yard.now(what), 0);
        }
        for (int s = 0; s < 2; s++) {
            due("not laid", yard.sheet(s, 4), NONE);
            due("not worn", yard.sheet(s, 5), 0);
        }
        due("on 1", yard.onCell(1), NONE);
        due("loud", yard.loud(0, 0), 25);
        due("undo", yard.undo(), STATE);
        due("no cell 6", yard.loud(6, 0), BAD);
    }

    private static void anewNothingHeard() {
        Due.sentence("Read anew: nothing HEARD, no TAPS");
        QuietByYard yard = busy();
        due("not at 0", yard.sources(), 254);
        Due.type(yard, "g1 1;s12 1 1 3;");
        yard.house();
        due("heard", yard.count(6), 0);
        due("taps", yard.count(7), 0);
        due("anywhere", yard.sources(), 1);
        yard.lay(0, 0);
        due("any", yard.mayBe(), 1);
    }

    private static void anewNoImages() {
        Due.sentence("Read anew: IMAGES are gone");
        QuietByYard yard = busy();
        yard.house();
        due("0", yard.back(0), STATE);
        due("1", yard.back(1), STATE);
        yard.keep(1);
        due("0 still", yard.back(0), STATE);
        due("1, kept since", yard.back(1), 0);
    }

    private static void notAnewByAFault() {
        Due.sentence("-10 less FAULT: nothing changes, IMAGES are not gone");
        QuietByYard yard = busy();
        Due.type(yard, "g1 1;f");
        due("a fault", yard.house(), -16);
        due("heard", yard.count(6), 1);
        due("taps", yard.count(7), 1);
        due("ten to undo", yard.now(3), 10);
        due("day", yard.now(0), 1);
        due("where", yard.sheet(0, 4), 1);
        due("back 0", yard.back(0), 1);
        due("back 1", yard.back(1), 1);
    }

    // ---- count, now

    private static void countsEdges() {
        Due.sentence("count(): 0 w .. 8 letters of THE TEXT. BAD");
        QuietByYard yard = told("g4 1;f7;n0 1 0 0;n0 1 0 0;s1 1 1 1;s1 1 1 1;s1 1 1 1;r0 0 0 0;");
        yard.hear(0, 0);
        yard.hear(0, 0);
        yard.tap(0, 1, 0, 0);
        Due.type(yard, "xyz");
        int[] counts = {4, 1, 7, 2, 3, 1, 2, 1, 3};
        for (int what = 0; what < counts.length; what++) {
            due("count " + what, yard.count(what), counts[what]);
        }
        due("count 9", yard.count(9), BAD);
        due("count -1", yard.count(-1), BAD);
    }

    private static void nowEdges() {
        Due.sentence("now(): 0 the DAY .. 3 how many may be UNDONE. BAD");
        QuietByYard yard = new QuietByYard();
        pass(yard, 25);
        int[] nows = {1, 1, 0, 10};
        for (int what = 0; what < nows.length; what++) {
            due("now " + what, yard.now(what), nows[what]);
        }
        due("now 4", yard.now(4), BAD);
        due("now -1", yard.now(-1), BAD);
    }
}
