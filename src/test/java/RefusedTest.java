import java.util.ArrayList;
import java.util.List;
import java.util.function.ToLongFunction;

/**
 * "Refused, and nothing changes, the first of these: BAD, STATE, FULL", and "(Nothing is changed.)" of
 * part 3: each call is made on one of two objects of the same past; then both answer all alike.
 */
public final class RefusedTest {
    private static final int BAD = -1, STATE = -2, FULL = -3, NONE = -9, NO = -1000000;
    private static final int LEAST = Integer.MIN_VALUE, GREATEST = Integer.MAX_VALUE;
    private static final int ANY = 1 << 30;

    private interface Call {
        long on(QuietByYard yard, int... numbers);
    }

    private RefusedTest() {
    }

    public static void main(String[] args) {
        badNumbers();
        badThings();
        badImages();
        state();
        full();
        badAheadOfState();
        badAheadOfFull();
        fault();
        onlyAsked();
        Due.end();
    }

    // ---- two objects of the same past

    /** Two by two cells; sheet 0 lies on 1, worn; sheets 1 and 2 do not lie; image 0 is kept, image 1 is not. */
    private static QuietByYard busy() {
        QuietByYard yard = Due.told("g2 2;f3;n0 60 0 23;n3 50 5 9;s12 1 1 3;s8 1 2 2;s20 1 1 9;r3 10 23 35;r1 4 9 46;");
        yard.lay(2, 3);
        yard.lay(0, 1);
        yard.hour();
        yard.keep(0);
        yard.hour();
        yard.turn(0);
        yard.lift(2);
        yard.hear(3, 20);
        yard.tap(0, 50, 1, 40);
        yard.rate(5, 1);
        Due.type(yard, "f9");
        return yard;
    }

    /** No letter, nothing heard and no tap more has room. */
    private static QuietByYard crammed() {
        QuietByYard yard = Due.told("g1 1;s1 1 1 1;");
        for (int i = 0; i < 4; i++) {
            yard.hear(0, 5);
            yard.tap(0, 5, 0, 5);
        }
        Due.type(yard, "f9;" + " ".repeat(197));
        return yard;
    }

    private static List<Long> all(QuietByYard yard) {
        List<Long> all = new ArrayList<>();
        for (int what = 0; what < 9; what++) {
            all.add((long) yard.count(what));
        }
        for (int what = 0; what < 4; what++) {
            all.add((long) yard.now(what));
            for (int n = 0; n < yard.count(3); n++) {
                all.add((long) yard.noise(n, what));
            }
            for (int r = 0; r < yard.count(5); r++) {
                all.add((long) yard.room(r, what));
            }
        }
        for (int s = 0; s < yard.count(4); s++) {
            for (int what = 0; what < 7; what++) {
                all.add((long) yard.sheet(s, what));
            }
            all.add((long) yard.toBuy(s));
        }
        for (int c = 0; c < yard.count(0) * yard.count(1); c++) {
            all.add((long) yard.onCell(c));
            all.add((long) yard.loud(c, 5));
            all.add((long) yard.strengths(c));
        }
        all.add((long) yard.waked(0));
        all.add((long) yard.through(0));
        all.add((long) yard.mayBe());
        all.add(yard.trace());
        return all;
    }

    private static void alike(String call, QuietByYard yard, QuietByYard twin) {
        List<Long> answers = all(yard);
        List<Long> due = all(twin);
        Due.due(call + ": so many answers behind it", answers.size(), due.size());
        for (int i = 0; i < answers.size() && i < due.size(); i++) {
            Due.due(call + ": answer " + i + " behind it", answers.get(i), due.get(i));
        }
    }

    /** What is NOW; what is UNDONE, deed by deed; what the images have; what the text tells. */
    private static void unchanged(String call, QuietByYard yard, QuietByYard twin) {
        alike(call, yard, twin);
        for (int deed = 0; deed < 11; deed++) {
            Due.due(call + ": undo behind it", yard.undo(), twin.undo());
            Due.due(call + ": laid, undone", yard.now(2), twin.now(2));
            Due.due(call + ": hour, undone", yard.now(1), twin.now(1));
        }
        alike(call + ", undone", yard, twin);
        for (int image = 0; image < 2; image++) {
            Due.due(call + ": back behind it", yard.back(image), twin.back(image));
            Due.due(call + ": laid, back", yard.now(2), twin.now(2));
            Due.due(call + ": hour, back", yard.now(1), twin.now(1));
            Due.due(call + ": worn, back", yard.sheet(0, 5), twin.sheet(0, 5));
        }
        yard.type(';');
        twin.type(';');
        Due.due(call + ": house behind it", yard.house(), twin.house());
        Due.due(call + ": fall behind it", yard.count(2), twin.count(2));
        Due.due(call + ": sheets behind it", yard.count(4), twin.count(4));
    }

    private static void answers(String call, long due, ToLongFunction<QuietByYard> asked) {
        QuietByYard yard = busy();
        Due.due(call, asked.applyAsLong(yard), due);
        unchanged(call, yard, busy());
    }

    private static void answersCrammed(String call, long due, ToLongFunction<QuietByYard> asked) {
        QuietByYard yard = crammed();
        Due.due(call, asked.applyAsLong(yard), due);
        unchanged(call, yard, crammed());
    }

    // ---- BAD

    /**
     * Each number of a call in its turn just too small, just too large, and as far out as an int goes, the
     * others as told; then all at once.
     */
    private static void bad(String name, int due, int[] least, int[] most, Call call) {
        for (int i = 0; i < least.length; i++) {
            for (int wrong : new int[] {least[i] - 1, most[i] + 1, LEAST, GREATEST, -ANY, ANY}) {
                int[] numbers = least.clone();
                numbers[i] = wrong;
                answers(name + " with number " + i + " of " + wrong, due, yard -> call.on(yard, numbers));
            }
        }
        int[] allOver = most.clone();
        int[] allUnder = least.clone();
        for (int i = 0; i < least.length; i++) {
            allOver[i]++;
            allUnder[i]--;
        }
        answers(name + " with all too large", due, yard -> call.on(yard, allOver));
        answers(name + " with all too small", due, yard -> call.on(yard, allUnder));
    }

    private static int[] row(int... numbers) {
        return numbers;
    }

    private static void badNumbers() {
        Due.sentence("BAD (a number is not as told)");
        bad("type", BAD, row(0), row(255), (yard, n) -> yard.type(n[0]));
        bad("loud", BAD, row(0, 0), row(3, 23), (yard, n) -> yard.loud(n[0], n[1]));
        bad("now", BAD, row(0), row(3), (yard, n) -> yard.now(n[0]));
        bad("waked", BAD, row(0), row(1), (yard, n) -> yard.waked(n[0]));
        bad("through", BAD, row(0), row(1), (yard, n) -> yard.through(n[0]));
        bad("hear", BAD, row(0, 0), row(3, 99), (yard, n) -> yard.hear(n[0], n[1]));
        bad("forget", BAD, row(0), row(1), (yard, n) -> yard.forget(n[0]));
        bad("strengths", BAD, row(0), row(3), (yard, n) -> yard.strengths(n[0]));
        bad("hired", BAD, row(0, 0, 1), row(3, 3, 99), (yard, n) -> yard.hired(n[0], n[1], n[2]));
        bad("way", BAD, row(0, 0, 1), row(3, 3, 99), (yard, n) -> yard.way(n[0], n[1], n[2]));
        bad("tap", BAD, row(0, 1, 0, 0), row(3, 99, 3, 99), (yard, n) -> yard.tap(n[0], n[1], n[2], n[3]));
        bad("odds", BAD, row(0, 0, 0), row(1, 10, 1), (yard, n) -> yard.odds(n[0], n[1], n[2]));
        bad("count", BAD, row(0), row(8), (yard, n) -> yard.count(n[0]));
    }

    private static void badThings() {
        Due.sentence("BAD (or there is no such thing)");
        bad("noise", BAD, row(0, 0), row(1, 3), (yard, n) -> yard.noise(n[0], n[1]));
        bad("sheet", BAD, row(0, 0), row(2, 6), (yard, n) -> yard.sheet(n[0], n[1]));
        bad("room", BAD, row(0, 0), row(1, 3), (yard, n) -> yard.room(n[0], n[1]));
        bad("onCell", BAD, row(0), row(3), (yard, n) -> yard.onCell(n[0]));
        bad("lay", BAD, row(1, 0), row(2, 3), BAD_LAY);
        bad("lift", BAD, row(0), row(2), (yard, n) -> yard.lift(n[0]));
        bad("turn", BAD, row(0), row(2), (yard, n) -> yard.turn(n[0]));
        bad("toBuy", BAD, row(0), row(2), (yard, n) -> yard.toBuy(n[0]));
        answers("toBuy of -5", BAD, yard -> yard.toBuy(-5));
        answers("toBuy of one that is laid", BAD, yard -> yard.toBuy(0));
        bad("gain", NO, row(0), row(2), (yard, n) -> yard.gain(n[0]));
        answers("gain of one that is not laid", NO, yard -> yard.gain(1));
        bad("rate", NO, row(0, 0), row(5, 2), (yard, n) -> yard.rate(n[0], n[1]));
    }

    /** Sheet 1 does not lie: a sheet just too small is told as -1. */
    private static final Call BAD_LAY = (yard, n) -> yard.lay(n[0] == 0 ? -1 : n[0], n[1]);

    private static void badImages() {
        Due.sentence("BAD (IMAGES 0, 1)");
        bad("keep", BAD, row(0), row(1), (yard, n) -> yard.keep(n[0]));
        bad("back", BAD, row(0), row(1), (yard, n) -> yard.back(n[0]));
    }

    // ---- STATE, FULL

    private static void state() {
        Due.sentence("STATE (as told)");
        answers("lay of one that is laid, where it is", STATE, yard -> yard.lay(0, 1));
        answers("lay of one that is laid, elsewhere", STATE, yard -> yard.lay(0, 0));
        answers("lay on another", STATE, yard -> yard.lay(2, 1));
        answers("lay on another with one cell", STATE, yard -> yard.lay(1, 1));
        answers("lay beyond the last row", STATE, yard -> yard.lay(1, 2));
        answers("lift of one that is not laid", STATE, yard -> yard.lift(1));
        answers("back to an image that was not kept", STATE, yard -> yard.back(1));
        answersCrammed("undo of none", STATE, QuietByYard::undo);
        answersCrammed("lift", STATE, yard -> yard.lift(0));
        answersCrammed("back 0", STATE, yard -> yard.back(0));
    }

    private static void full() {
        Due.sentence("FULL");
        answersCrammed("type of a 201st letter", FULL, yard -> yard.type(' '));
        answersCrammed("type 0", FULL, yard -> yard.type(0));
        answersCrammed("type 255", FULL, yard -> yard.type(255));
        answersCrammed("hear of a fifth", FULL, yard -> yard.hear(0, 6));
        answersCrammed("tap of a fifth", FULL, yard -> yard.tap(0, 5, 0, 4));
    }

    private static void badAheadOfState() {
        Due.sentence("the first of these: BAD ahead of STATE");
        answers("lay of one that is laid, beyond the cells", BAD, yard -> yard.lay(0, 4));
        answers("lay of one that is laid, below the cells", BAD, yard -> yard.lay(0, -1));
        answers("lay of none on another", BAD, yard -> yard.lay(3, 1));
        answers("lay of none", BAD, yard -> yard.lay(-1, 1));
        answersCrammed("lift of none", BAD, yard -> yard.lift(1));
        answersCrammed("back of none", BAD, yard -> yard.back(2));
        answersCrammed("back of none", BAD, yard -> yard.back(-1));
    }

    private static void badAheadOfFull() {
        Due.sentence("the first of these: BAD ahead of FULL");
        answersCrammed("type 256", BAD, yard -> yard.type(256));
        answersCrammed("type -1", BAD, yard -> yard.type(-1));
        answersCrammed("hear in cell 1", BAD, yard -> yard.hear(1, 0));
        answersCrammed("hear 100", BAD, yard -> yard.hear(0, 100));
        answersCrammed("tap from cell 1", BAD, yard -> yard.tap(1, 1, 0, 0));
        answersCrammed("tap to cell 1", BAD, yard -> yard.tap(0, 1, 1, 0));
        answersCrammed("tap of 0", BAD, yard -> yard.tap(0, 0, 0, 0));
        answersCrammed("tap of 100", BAD, yard -> yard.tap(0, 100, 0, 0));
        answersCrammed("tap by -1", BAD, yard -> yard.tap(0, 1, 0, -1));
    }

    private static void fault() {
        Due.sentence("-10 less FAULT: nothing changes");
        answers("house of a text that ends too early", -12, QuietByYard::house);
    }

    // ---- what only asks

    private static void onlyAsked() {
        Due.sentence("(Nothing is changed.)");
        answers("waked 0", 0, yard -> yard.waked(0));
        answers("waked 1", 10, yard -> yard.waked(1));
        answers("through 0", 26, yard -> yard.through(0));
        answers("through 1", 0, yard -> yard.through(1));
        answers("toBuy", 9, yard -> yard.toBuy(NONE));
        answers("toBuy 1", -5, yard -> yard.toBuy(1));
        answers("toBuy 2", 3, yard -> yard.toBuy(2));
        answers("gain 0", 12, yard -> yard.gain(0));
        answers("sources", 15, QuietByYard::sources);
        answers("strengths 3", 1, yard -> yard.strengths(3));
        answers("hired", 26, yard -> yard.hired(0, 3, 20));
        answers("way", 2, yard -> yard.way(0, 3, 20));
        answers("mayBe", 0, QuietByYard::mayBe);
        answers("odds", 1, yard -> yard.odds(0, 5, 0));
        answers("loud", 60, yard -> yard.loud(0, 23));
        answers("onCell", 0, yard -> yard.onCell(1));
        answers("trace", 100001, QuietByYard::trace);
    }
}
