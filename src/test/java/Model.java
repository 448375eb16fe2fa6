import java.util.ArrayDeque;
import java.util.ArrayList;
import java.util.Arrays;
import java.util.Deque;
import java.util.List;
import java.util.regex.Matcher;
import java.util.regex.Pattern;

/**
 * The document a second time, in the slowest and plainest way: hour by hour, strength by
 * strength, all ways to lay; it shares no thought with the program but the document's words.
 */
final class Model {
    static final int BAD = -1, STATE = -2, FULL = -3, NONE = -9, NO = -1000000;

    private static final class Now {
        int day;
        int hour;
        int[] laid = {NONE, NONE, NONE, NONE};
        int[] worn = new int[4];

        Now copy() {
            Now other = new Now();
            other.day = day;
            other.hour = hour;
            other.laid = laid.clone();
            other.worn = worn.clone();
            return other;
        }
    }

    private static final class Told {
        int w = 3;
        int h = 2;
        int fall = 5;
        boolean fallTold;
        int items;
        final List<int[]> noises = new ArrayList<>();
        final List<int[]> sheets = new ArrayList<>();
        final List<int[]> rooms = new ArrayList<>();
    }

    private String text = "";
    private Told told = new Told();
    private Now now = new Now();
    private final Deque<Now> past = new ArrayDeque<>();
    private final Now[] images = new Now[2];
    private final List<int[]> heard = new ArrayList<>();
    private final List<int[]> taps = new ArrayList<>();
    private long trace;

    private static boolean in(int number, int least, int most) {
        return least <= number && number <= most;
    }

    private boolean cell(int c) {
        return in(c, 0, told.w * told.h - 1);
    }

    int type(int letter) {
        if (!in(letter, 0, 255)) {
            return BAD;
        }
        if (text.length() == 200) {
            return FULL;
        }
        text += (char) letter;
        return text.length();
    }

    int clear() {
        int n = text.length();
        text = "";
        return n;
    }

    // ---- the text: tokens are cut first, then they are taken one by one

    private static final Pattern TOKEN = Pattern.compile("[0-9]+|[^ ]", Pattern.DOTALL);

    int house() {
        List<String> tokens = new ArrayList<>();
        List<Integer> places = new ArrayList<>();
        Matcher m = TOKEN.matcher(text);
        while (m.find()) {
            tokens.add(m.group());
            places.add(m.start());
        }
        places.add(text.length());
        Told fresh = new Told();
        int taken = take(tokens, fresh);
        if (taken < tokens.size() || fresh.items < 0) {
            return -10 - places.get(taken);
        }
        told = fresh;
        text = "";
        now = new Now();
        past.clear();
        Arrays.fill(images, null);
        heard.clear();
        taps.clear();
        return fresh.items;
    }

    /** How many tokens can stand; items below 0: the text ends too early. */
    private static int take(List<String> tokens, Told fresh) {
        int i = 0;
        int items = 0;
        while (i < tokens.size()) {
            String kind = tokens.get(i);
            boolean may = kind.equals("g") && items == 0
                || kind.equals("f") && !fresh.fallTold
                || kind.equals("n") && fresh.noises.size() < 3
                || kind.equals("s") && fresh.sheets.size() < 4
                || kind.equals("r") && fresh.rooms.size() < 3;
            if (!may) {
                return i;
            }
            i++;
            int fields = kind.equals("g") ? 2 : kind.equals("f") ? 1 : 4;
            int[] numbers = new int[fields];
            for (int k = 0; k <= fields; k++, i++) {
                if (i == tokens.size()) {
                    fresh.items = -1;
                    return i;
                }
                String token = tokens.get(i);
                if (k == fields) {
                    if (!token.equals(";")) {
                        return i;
                    }
                } else if (!token.matches("0|[1-9][0-9]?") || !mayBe(kind, k, Integer.parseInt(token), numbers, fresh)) {
                    return i;
                } else {
                    numbers[k] = Integer.parseInt(token);
                }
            }
            items++;
            switch (kind) {
                case "g" -> {
                    fresh.w = numbers[0];
                    fresh.h = numbers[1];
                }
                case "f" -> {
                    fresh.fall = numbers[0];
                    fresh.fallTold = true;
                }
                case "n" -> fresh.noises.add(numbers);
                case "s" -> fresh.sheets.add(numbers);
                default -> fresh.rooms.add(numbers);
            }
        }
        fresh.items = items;
        return i;
    }

    private static boolean mayBe(String kind, int k, int number, int[] before, Told fresh) {
        int lastCell = fresh.w * fresh.h - 1;
        return switch (kind + k) {
            case "g0" -> in(number, 1, 4);
            case "g1" -> in(number, 1, 3);
            case "f0" -> in(number, 1, 20);
            case "n0", "r0" -> in(number, 0, lastCell);
            case "n1" -> in(number, 1, 99);
            case "n2", "r1" -> in(number, 0, 23);
            case "n3" -> in(number, before[2], 23);
            case "r2" -> in(number, before[1], 23);
            case "r3" -> in(number, 0, 99);
            case "s0" -> in(number, 0, 30);
            case "s1", "s2" -> in(number, 1, 3);
            case "s3" -> in(number, 1, 9);
            default -> throw new IllegalStateException(kind + k);
        };
    }

    // ---- what is told

    private static int ask(List<int[]> list, int i, int what) {
        return in(i, 0, list.size() - 1) && in(what, 0, 3) ? list.get(i)[what] : BAD;
    }

    int noise(int n, int what) {
        return ask(told.noises, n, what);
    }

    int room(int r, int what) {
        return ask(told.rooms, r, what);
    }

    private boolean isSheet(int s) {
        return in(s, 0, told.sheets.size() - 1);
    }

    int sheet(int s, int what) {
        if (!isSheet(s) || !in(what, 0, 6)) {
            return BAD;
        }
        return what < 4 ? told.sheets.get(s)[what] : what == 4 ? now.laid[s] : what == 5 ? now.worn[s] : thick(s, now);
    }

    private int thick(int s, Now at) {
        int thick = told.sheets.get(s)[0] - at.worn[s] / 10;
        return thick < 0 ? 0 : thick;
    }

    private int on(int c, int[] laid) {
        for (int s = 0; s < told.sheets.size(); s++) {
            if (laid[s] != NONE) {
                int column = c % told.w - laid[s] % told.w;
                int row = c / told.w - laid[s] / told.w;
                if (in(column, 0, told.sheets.get(s)[1] - 1) && in(row, 0, told.sheets.get(s)[2] - 1)) {
                    return s;
                }
            }
        }
        return NONE;
    }

    int onCell(int c) {
        return cell(c) ? on(c, now.laid) : BAD;
    }

    int now(int what) {
        int bits = 0;
        for (int s = 0; s < 4; s++) {
            bits += now.laid[s] == NONE ? 0 : 1 << s;
        }
        return what == 0 ? now.day : what == 1 ? now.hour : what == 2 ? bits : what == 3 ? past.size() : BAD;
    }

    // ---- loudness: what arrives is raised until nothing rises

    private int[] loudBy(int from, int strength, int[] laid, int[] thick) {
        int cells = told.w * told.h;
        int[] loud = new int[cells];
        loud[from] = strength;
        boolean rises = true;
        while (rises) {
            rises = false;
            for (int a = 0; a < cells; a++) {
                for (int b = 0; b < cells; b++) {
                    int arrives = next(a, b) ? loud[a] - told.fall - takes(a, b, laid, thick) : 0;
                    if (arrives > loud[b]) {
                        loud[b] = arrives;
                        rises = true;
                    }
                }
            }
        }
        return loud;
    }

    private boolean next(int a, int b) {
        return Math.abs(a % told.w - b % told.w) + Math.abs(a / told.w - b / told.w) == 1;
    }

    private int takes(int a, int b, int[] laid, int[] thick) {
        int mine = on(b, laid);
        int other = on(a, laid);
        if (mine == NONE) {
            return 0;
        }
        return other == NONE || other == mine ? thick[mine] : thick[mine] / 2;
    }

    private int[] thicks(Now at) {
        int[] thick = new int[4];
        for (int s = 0; s < told.sheets.size(); s++) {
            thick[s] = thick(s, at);
        }
        return thick;
    }

    private int[][] loudByHours(int[] laid, int[] thick) {
        int[][] loud = new int[24][told.w * told.h];
        for (int[] noise : told.noises) {
            int[] by = loudBy(noise[0], noise[1], laid, thick);
            for (int hour = noise[2]; hour <= noise[3]; hour++) {
                for (int c = 0; c < by.length; c++) {
                    loud[hour][c] = Math.max(loud[hour][c], by[c]);
                }
            }
        }
        return loud;
    }

    int loud(int c, int hour) {
        return cell(c) && in(hour, 0, 23) ? loudByHours(now.laid, thicks(now))[hour][c] : BAD;
    }

    // ---- what is done

    private void remember() {
        past.addLast(now.copy());
        if (past.size() > 10) {
            past.removeFirst();
        }
    }

    private boolean canLie(int s, int c, int[] laid) {
        int[] sheet = told.sheets.get(s);
        for (int row = 0; row < sheet[2]; row++) {
            for (int column = 0; column < sheet[1]; column++) {
                int x = c % told.w + column;
                int y = c / told.w + row;
                if (x >= told.w || y >= told.h || on(y * told.w + x, laid) != NONE) {
                    return false;
                }
            }
        }
        return true;
    }

    int lay(int s, int c) {
        if (!isSheet(s) || !cell(c)) {
            return BAD;
        }
        if (now.laid[s] != NONE || !canLie(s, c, now.laid)) {
            return STATE;
        }
        remember();
        now.laid[s] = c;
        return Integer.bitCount(now(2));
    }

    int lift(int s) {
        if (!isSheet(s)) {
            return BAD;
        }
        if (now.laid[s] == NONE) {
            return STATE;
        }
        remember();
        int was = now.laid[s];
        now.laid[s] = NONE;
        return was;
    }

    int turn(int s) {
        if (!isSheet(s)) {
            return BAD;
        }
        remember();
        now.worn[s] /= 2;
        return now.worn[s];
    }

    private void pass(Now at) {
        int[] loud = loudByHours(at.laid, thicks(at))[at.hour];
        int[] more = new int[4];
        for (int c = 0; c < loud.length; c++) {
            int s = on(c, at.laid);
            if (s != NONE) {
                more[s] = Math.max(more[s], loud[c] / 10);
            }
        }
        for (int s = 0; s < 4; s++) {
            at.worn[s] += more[s];
        }
        at.day += (at.hour + 1) / 24;
        at.hour = (at.hour + 1) % 24;
    }

    int hour() {
        if (now.day == 99) {
            return STATE;
        }
        remember();
        pass(now);
        return now.hour;
    }

    int undo() {
        if (past.isEmpty()) {
            return STATE;
        }
        now = past.removeLast();
        return past.size();
    }

    // ---- rooms

    /** {room, hour} of the first that is not still. */
    private int[] waked(int[] laid, int[] thick) {
        int[][] loud = loudByHours(laid, thick);
        for (int r = 0; r < told.rooms.size(); r++) {
            int[] room = told.rooms.get(r);
            for (int hour = room[1]; hour <= room[2]; hour++) {
                if (loud[hour][room[0]] > room[3]) {
                    return new int[] {r, hour};
                }
            }
        }
        return new int[] {NONE, NONE};
    }

    int waked(int what) {
        return in(what, 0, 1) ? waked(now.laid, thicks(now))[what] : BAD;
    }

    int through(int what) {
        if (!in(what, 0, 1)) {
            return BAD;
        }
        Now later = now.copy();
        for (int hours = 1; hours <= 240; hours++) {
            pass(later);
            for (int s = 0; s < told.sheets.size(); s++) {
                if (now.laid[s] != NONE && thick(s, now) != 0 && thick(s, later) == 0) {
                    return what == 0 ? hours : s;
                }
            }
        }
        return NONE;
    }

    private int cheapest;
    private int[] bought;

    int toBuy(int s) {
        if (s != NONE && (!isSheet(s) || now.laid[s] != NONE)) {
            return BAD;
        }
        cheapest = Integer.MAX_VALUE;
        bought = null;
        buy(0, 0, 0, now.laid.clone());
        if (bought == null) {
            return NONE;
        }
        return s == NONE ? cheapest : bought[s] == NONE ? -5 : bought[s];
    }

    /** Goes through the ways in the document's order, so that the first of the cheapest stays. */
    private void buy(int s, int many, int price, int[] laid) {
        if (s == told.sheets.size()) {
            if (price < cheapest && waked(laid, thicks(now))[0] == NONE) {
                cheapest = price;
                bought = laid.clone();
            }
            return;
        }
        buy(s + 1, many, price, laid);
        if (now.laid[s] != NONE || many == 2) {
            return;
        }
        for (int c = 0; c < told.w * told.h; c++) {
            if (canLie(s, c, laid)) {
                laid[s] = c;
                buy(s + 1, many + 1, price + told.sheets.get(s)[3], laid);
                laid[s] = NONE;
            }
        }
    }

    private int together(int[] laid) {
        int[][] loud = loudByHours(laid, thicks(now));
        int sum = 0;
        for (int[] room : told.rooms) {
            int loudest = 0;
            for (int hour = room[1]; hour <= room[2]; hour++) {
                loudest = Math.max(loudest, loud[hour][room[0]]);
            }
            sum += loudest;
        }
        return sum;
    }

    int gain(int s) {
        if (!isSheet(s) || now.laid[s] == NONE) {
            return NO;
        }
        int[] without = now.laid.clone();
        without[s] = NONE;
        return together(without) - together(now.laid);
    }

    // ---- noises

    int hear(int c, int v) {
        if (!cell(c) || !in(v, 0, 99)) {
            return BAD;
        }
        if (heard.size() == 4) {
            return FULL;
        }
        heard.add(new int[] {c, v});
        return heard.size();
    }

    int forget(int what) {
        if (!in(what, 0, 1)) {
            return BAD;
        }
        List<int[]> list = what == 0 ? heard : taps;
        int were = list.size();
        list.clear();
        return were;
    }

    int strengths(int c) {
        if (!cell(c)) {
            return BAD;
        }
        int many = 0;
        for (int strength = 1; strength <= 99; strength++) {
            int[] loud = loudBy(c, strength, now.laid, thicks(now));
            boolean fits = true;
            for (int[] h : heard) {
                fits &= loud[h[0]] == h[1];
            }
            many += fits ? 1 : 0;
        }
        return many;
    }

    int sources() {
        int bits = 0;
        for (int c = 0; c < told.w * told.h; c++) {
            bits += strengths(c) > 0 ? 1 << c : 0;
        }
        return bits;
    }

    int hired(int from, int to, int v) {
        if (!cell(from) || !cell(to) || !in(v, 1, 99)) {
            return BAD;
        }
        for (int strength = 1; strength <= 99; strength++) {
            if (loudBy(from, strength, now.laid, thicks(now))[to] >= v) {
                return strength;
            }
        }
        return NONE;
    }

    int way(int from, int to, int n) {
        if (!cell(from) || !cell(to) || !in(n, 1, 99)) {
            return BAD;
        }
        int cells = told.w * told.h;
        boolean[] quiet = new boolean[cells];
        for (int c = 0; c < cells; c++) {
            int[] loud = loudBy(c, n, now.laid, thicks(now));
            quiet[c] = true;
            for (int[] room : told.rooms) {
                quiet[c] &= loud[room[0]] <= room[3];
            }
        }
        boolean[] reached = new boolean[cells];
        reached[from] = quiet[from];
        for (int steps = 0; steps <= cells; steps++) {
            if (reached[to]) {
                return steps;
            }
            boolean[] further = reached.clone();
            for (int a = 0; a < cells; a++) {
                for (int b = 0; b < cells; b++) {
                    further[b] |= reached[a] && next(a, b) && quiet[b];
                }
            }
            reached = further;
        }
        return NONE;
    }

    int tap(int from, int n, int to, int v) {
        if (!cell(from) || !in(n, 1, 99) || !cell(to) || !in(v, 0, 99)) {
            return BAD;
        }
        if (taps.size() == 4) {
            return FULL;
        }
        taps.add(new int[] {from, n, to, v});
        return taps.size();
    }

    /** For the tests alone: what a tap would tell. */
    int loudIfSham(int s, int from, int n, int to) {
        int[] thick = thicks(now);
        thick[s] = 0;
        return cell(from) && cell(to) ? loudBy(from, n, now.laid, thick)[to] : 0;
    }

    int mayBe() {
        int bits = 0;
        for (int s = 0; s < told.sheets.size(); s++) {
            int[] thick = thicks(now);
            thick[s] = 0;
            boolean fits = now.laid[s] != NONE;
            for (int[] t : taps) {
                fits &= loudBy(t[0], t[1], now.laid, thick)[t[2]] == t[3];
            }
            bits += fits ? 1 << s : 0;
        }
        return bits;
    }

    /** Sums over all sets of noises that may sound, each in parts of 10 to the number of noises. */
    int odds(int r, int p, int what) {
        if (!in(r, 0, told.rooms.size() - 1) || !in(p, 0, 10) || !in(what, 0, 1)) {
            return BAD;
        }
        int[] room = told.rooms.get(r);
        int many = told.noises.size();
        int upper = 0;
        int lower = 1;
        for (int n = 0; n < many; n++) {
            lower *= 10;
        }
        for (int set = 0; set < 1 << many; set++) {
            int part = 1;
            int loudest = 0;
            for (int n = 0; n < many; n++) {
                boolean sounds = (set >> n & 1) == 1;
                part *= sounds ? p : 10 - p;
                int[] noise = told.noises.get(n);
                if (sounds) {
                    loudest = Math.max(loudest, loudBy(noise[0], noise[1], now.laid, thicks(now))[room[0]]);
                }
            }
            upper += loudest <= room[3] ? part : 0;
        }
        for (int d = lower; d >= 2; d--) {
            if (upper % d == 0 && lower % d == 0) {
                upper /= d;
                lower /= d;
            }
        }
        return what == 0 ? upper : lower;
    }

    // ---- kinds, images

    private static final int[] ABOVE = {-1, 0, 0, 1, 2, 0};
    private static final int[] MARK = {1, 10, 100, 1000, 10000, 100000};

    private int asKind(int kind, int s) {
        trace += MARK[kind];
        int up = ABOVE[kind] < 0 ? thick(s, now) : asKind(ABOVE[kind], s);
        return switch (kind) {
            case 1 -> up + told.sheets.get(s)[3];
            case 2 -> up - now.worn[s];
            case 3 -> up + up;
            case 4 -> up + s;
            case 5 -> up + now.hour;
            default -> up;
        };
    }

    int rate(int kind, int s) {
        return in(kind, 0, 5) && isSheet(s) ? asKind(kind, s) : NO;
    }

    int keep(int image) {
        if (!in(image, 0, 1)) {
            return BAD;
        }
        images[image] = now.copy();
        return now.day;
    }

    int back(int image) {
        if (!in(image, 0, 1)) {
            return BAD;
        }
        if (images[image] == null) {
            return STATE;
        }
        now = images[image].copy();
        past.clear();
        return now.day;
    }

    int count(int what) {
        int[] counts = {told.w, told.h, told.fall, told.noises.size(), told.sheets.size(), told.rooms.size(),
            heard.size(), taps.size(), text.length()};
        return in(what, 0, 8) ? counts[what] : BAD;
    }

    long trace() {
        return trace;
    }
}
