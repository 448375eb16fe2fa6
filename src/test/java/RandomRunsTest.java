/** Long runs of calls, many of them wrong ones, on the program and on the model: all answers are one. */
public final class RandomRunsTest {
    private static final int RUNS = 1500;
    private static final int CALLS = 512;
    private static final int[] WILD = {
        Integer.MIN_VALUE, -1000000, -10, -9, -5, -1, 24, 31, 100, 256, 1 << 30, Integer.MAX_VALUE
    };

    private final QuietByYard yard = new QuietByYard();
    private final Model model = new Model();
    private final int run;
    private long seed;
    private int calls = 0;

    private RandomRunsTest(int run) {
        this.run = run;
        // A row of numbers that is the same in every run of the tests.
        this.seed = run * 7919L + 17;
    }

    public static void main(String[] args) {
        for (int run = 0; run < RUNS; run++) {
            new RandomRunsTest(run).go();
        }
        Due.end();
    }

    private int any(int below) {
        seed = seed * 6364136223846793005L + 1442695040888963407L;
        return (int) ((seed >>> 33) % below);
    }

    private int between(int least, int most) {
        return least + any(most - least + 1);
    }

    /** Mostly as told, now and then one beyond, or wild. */
    private int number(int least, int most) {
        int way = any(40);
        if (way == 0) {
            return WILD[any(WILD.length)];
        }
        return way == 1 ? least - 1 : way == 2 ? most + 1 : between(least, most);
    }

    private int cell() {
        int cells = model.count(0) * model.count(1);
        return number(0, Math.max(0, cells - 1));
    }

    private int sheet() {
        return number(0, Math.max(0, model.count(4) - 1));
    }

    private void go() {
        if (any(10) != 0) {
            tell();
        }
        while (calls < CALLS - 210) {
            step();
        }
        if (any(3) == 0) {
            tell();
        }
        while (calls < CALLS) {
            step();
        }
    }

    private void same(String call, long got, long want) {
        calls++;
        Due.due("run " + run + ", call " + calls + ": " + call, got, want);
    }

    private void tell() {
        String text = any(6) == 0 ? spoilt(text()) : text();
        for (int i = 0; i < text.length() && i < 199; i++) {
            int letter = text.charAt(i);
            same("type " + letter, yard.type(letter), model.type(letter));
        }
        same("house of " + text, yard.house(), model.house());
    }

    private String text() {
        StringBuilder text = new StringBuilder();
        int w = 3;
        int h = 2;
        if (any(5) != 0) {
            w = between(1, 4);
            h = between(1, 3);
            text.append("g").append(w).append(' ').append(h).append(';');
        }
        if (any(4) != 0) {
            text.append("f ").append(any(3) == 0 ? between(1, 20) : between(1, 6)).append(';');
        }
        for (int i = any(4); i > 0; i--) {
            int a = any(24);
            int b = any(2) == 0 ? between(a, 23) : a;
            item(text, 'n', any(w * h), any(3) == 0 ? between(1, 99) : between(50, 99), any(2) == 0 ? 0 : a, b);
        }
        for (int i = any(5); i > 0; i--) {
            int most = any(3) == 0 ? 3 : 2;
            item(text, 's', between(0, any(2) == 0 ? 30 : 8), between(1, most), between(1, most), between(1, 9));
        }
        for (int i = any(4); i > 0; i--) {
            int a = any(24);
            item(text, 'r', any(w * h), any(2) == 0 ? 0 : a, between(a, 23), between(any(2) == 0 ? 30 : 0, 99));
        }
        return text.toString();
    }

    private void item(StringBuilder text, char kind, int a, int b, int c, int d) {
        text.append(kind).append(any(4) == 0 ? " " : "").append(a).append(' ').append(b).append(' ').append(c)
            .append(any(4) == 0 ? "  " : " ").append(d).append(any(5) == 0 ? " ; " : ";");
    }

    private String spoilt(String text) {
        StringBuilder letters = new StringBuilder(text);
        for (int i = between(1, 2); i > 0; i--) {
            int at = any(letters.length() + 1);
            char letter = "gfnsr; 0123456789x\n\u00e9".charAt(any(20));
            int way = any(4);
            if (way == 0 || at == letters.length()) {
                letters.insert(at, letter);
            } else if (way == 1) {
                letters.setCharAt(at, letter);
            } else if (way == 2) {
                letters.deleteCharAt(at);
            } else {
                letters.setLength(at);
            }
        }
        return letters.toString();
    }

    private void step() {
        int kind = any(46);
        if (kind < 14) {
            deed(kind);
        } else if (kind < 30) {
            look(kind - 14);
        } else {
            guess(kind - 30);
        }
    }

    private void deed(int kind) {
        int s = sheet();
        int c = cell();
        switch (kind) {
            case 0, 1, 2, 3 -> same("lay " + s + " " + c, yard.lay(s, c), model.lay(s, c));
            case 4 -> same("lift " + s, yard.lift(s), model.lift(s));
            case 5 -> same("turn " + s, yard.turn(s), model.turn(s));
            case 6, 7, 8, 9, 10 -> same("hour", yard.hour(), model.hour());
            case 11, 12 -> same("undo", yard.undo(), model.undo());
            default -> {
                int image = number(0, 1);
                if (any(2) == 0) {
                    same("keep " + image, yard.keep(image), model.keep(image));
                } else {
                    same("back " + image, yard.back(image), model.back(image));
                }
            }
        }
    }

    private void look(int kind) {
        int s = sheet();
        int c = cell();
        int what = number(0, 3);
        int bit = number(0, 1);
        int hour = number(0, 23);
        int sheetWhat = number(0, 6);
        int counted = number(0, 8);
        switch (kind) {
            case 0 -> same("noise " + s + " " + what, yard.noise(s, what), model.noise(s, what));
            case 1, 2 -> same("sheet " + s + " " + sheetWhat, yard.sheet(s, sheetWhat), model.sheet(s, sheetWhat));
            case 3 -> same("room " + s + " " + what, yard.room(s, what), model.room(s, what));
            case 4 -> same("onCell " + c, yard.onCell(c), model.onCell(c));
            case 5, 6, 7 -> same("loud " + c + " " + hour, yard.loud(c, hour), model.loud(c, hour));
            case 8, 9 -> same("now " + what, yard.now(what), model.now(what));
            case 10 -> same("waked " + bit, yard.waked(bit), model.waked(bit));
            case 11 -> throughOrWaked(bit);
            case 12 -> buy(s);
            case 13 -> same("gain " + s, yard.gain(s), model.gain(s));
            case 14 -> same("count " + counted, yard.count(counted), model.count(counted));
            default -> same("trace", yard.trace(), model.trace());
        }
    }

    private void throughOrWaked(int bit) {
        if (any(2) == 0) {
            same("through " + bit, yard.through(bit), model.through(bit));
        } else {
            same("waked " + bit, yard.waked(bit), model.waked(bit));
        }
    }

    /** The model is slow at this: not too often. */
    private void buy(int s) {
        if (any(4) == 0) {
            int asked = any(2) == 0 ? Model.NONE : s;
            same("toBuy " + asked, yard.toBuy(asked), model.toBuy(asked));
        }
    }

    private void guess(int kind) {
        int from = cell();
        int to = cell();
        int v = number(0, 99);
        int n = number(1, 99);
        int bit = number(0, 1);
        switch (kind) {
            case 0 -> same("hear " + to + " " + v, yard.hear(to, v), model.hear(to, v));
            case 1, 2 -> hearTruth();
            case 3 -> same("forget " + bit, yard.forget(bit), model.forget(bit));
            case 4 -> same("sources", yard.sources(), model.sources());
            case 5 -> same("strengths " + from, yard.strengths(from), model.strengths(from));
            case 6, 7 -> same("hired " + from + " " + to + " " + v, yard.hired(from, to, v), model.hired(from, to, v));
            case 8, 9 -> same("way " + from + " " + to + " " + n, yard.way(from, to, n), model.way(from, to, n));
            case 10 -> same("tap", yard.tap(from, n, to, v), model.tap(from, n, to, v));
            case 11 -> tapTruth();
            case 12 -> same("mayBe", yard.mayBe(), model.mayBe());
            case 13 -> {
                int r = number(0, Math.max(0, model.count(5) - 1));
                int p = number(0, 10);
                same("odds " + r + " " + p + " " + bit, yard.odds(r, p, bit), model.odds(r, p, bit));
            }
            case 14 -> {
                int kindOf = number(0, 5);
                int s = sheet();
                same("rate " + kindOf + " " + s, yard.rate(kindOf, s), model.rate(kindOf, s));
            }
            default -> {
                int letter = any(3) == 0 ? number(0, 255) : ' ';
                if (any(3) == 0) {
                    same("clear", yard.clear(), model.clear());
                } else if (any(12) == 0) {
                    same("house", yard.house(), model.house());
                } else {
                    same("type " + letter, yard.type(letter), model.type(letter));
                }
            }
        }
    }

    /** What is heard of a noise in cell 0, so that there are sources to find. */
    private void hearTruth() {
        int to = cell();
        int loss = model.hired(0, to, 1);
        int v = loss > 0 ? Math.max(0, 60 - (loss - 1)) : 0;
        same("hear " + to + " " + v, yard.hear(to, v), model.hear(to, v));
        if (any(2) == 0) {
            same("strengths 0", yard.strengths(0), model.strengths(0));
        } else {
            same("sources", yard.sources(), model.sources());
        }
    }

    /** A tap as it is if a sheet is the sham. */
    private void tapTruth() {
        int from = cell();
        int to = cell();
        int v = model.loudIfSham(any(4), from, 80, to);
        same("tap", yard.tap(from, 80, to, v), model.tap(from, 80, to, v));
        same("mayBe", yard.mayBe(), model.mayBe());
    }
}
