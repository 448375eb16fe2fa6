/** A yard of quiet: noises, sheets that take some of them, rooms that want to be still. */
public final class QuietByYard {
    public static final int BAD = -1, STATE = -2, FULL = -3, NONE = -9;
    public static final int NO = -1000000;

    private static final int MOST_LETTERS = 200;
    private static final int MOST_CELLS = 12;
    private static final int MOST_NOISES = 3;
    private static final int MOST_SHEETS = 4;
    private static final int MOST_ROOMS = 3;
    private static final int MOST_REPORTS = 4;
    private static final int MOST_STRENGTH = 99;
    private static final int HOURS_OF_DAY = 24;
    private static final int LAST_DAY = 99;
    private static final int HOURS_AHEAD = 240;
    private static final int IMAGES = 2;
    private static final int NOT_BOUGHT = -5;

    // What the numbers of a noise, a sheet and a room are, in the order in which they are told.
    private static final int CELL = 0;
    private static final int STRENGTH = 1, NOISE_FROM = 2, NOISE_TO = 3;
    private static final int THICK = 0, WIDE = 1, LONG = 2, PRICE = 3;
    private static final int ROOM_FROM = 1, ROOM_TO = 2, MOST = 3;

    private final Text text = new Text();
    private final House house = new House();
    private final House draft = new House();
    private final Moment present = new Moment();
    private final Moment ahead = new Moment();
    private final Past past = new Past();
    private final Shelf images = new Shelf(IMAGES);
    private final boolean[] kept = new boolean[IMAGES];
    private final Rows heard = new Rows(MOST_REPORTS);
    private final Rows taps = new Rows(MOST_REPORTS);
    private final Floor floor = new Floor(house);
    private final Hearing hearing = new Hearing(house, floor);
    private final Buyer buyer = new Buyer(house, floor, hearing);
    private final int[] steps = new int[MOST_CELLS];
    private long traced;

    public QuietByYard() {
    }

    // ---- the house

    public int type(int letter) {
        if (!isWithin(letter, 0, 255)) {
            return BAD;
        }
        if (text.isFull()) {
            return FULL;
        }
        text.append(letter);
        return text.size();
    }

    public int clear() {
        int letters = text.size();
        text.drop();
        return letters;
    }

    public int house() {
        int items = text.tell(draft);
        if (items < 0) {
            return items;
        }
        house.copyFrom(draft);
        floor.measure();
        text.drop();
        startAnew();
        return items;
    }

    private void startAnew() {
        present.begin();
        past.drop();
        heard.drop();
        taps.drop();
        for (int image = 0; image < IMAGES; image++) {
            kept[image] = false;
        }
    }

    public int noise(int n, int what) {
        return house.noises.has(n) && isWithin(what, 0, 3) ? house.noises.get(n, what) : BAD;
    }

    public int sheet(int s, int what) {
        if (!house.sheets.has(s)) {
            return BAD;
        }
        switch (what) {
            case 0:
            case 1:
            case 2:
            case 3:
                return house.sheets.get(s, what);
            case 4:
                return present.cellOf(s);
            case 5:
                return present.wornOf(s);
            case 6:
                return house.thickNow(s, present);
            default:
                return BAD;
        }
    }

    public int room(int r, int what) {
        return house.rooms.has(r) && isWithin(what, 0, 3) ? house.rooms.get(r, what) : BAD;
    }

    public int onCell(int c) {
        if (!house.hasCell(c)) {
            return BAD;
        }
        floor.show(present);
        return floor.sheetOn(c);
    }

    public int loud(int c, int hour) {
        if (!house.hasCell(c) || !isWithin(hour, 0, HOURS_OF_DAY - 1)) {
            return BAD;
        }
        floor.show(present);
        return hearing.loudWithin(c, hour, hour);
    }

    public int now(int what) {
        switch (what) {
            case 0:
                return present.day;
            case 1:
                return present.hour;
            case 2:
                return present.laidBits();
            case 3:
                return past.size();
            default:
                return BAD;
        }
    }

    // ---- what is done

    public int lay(int s, int c) {
        if (!house.sheets.has(s) || !house.hasCell(c)) {
            return BAD;
        }
        floor.show(present);
        if (present.isLaid(s) || !floor.canLie(s, c)) {
            return STATE;
        }
        past.remember(present);
        present.put(s, c);
        return Integer.bitCount(present.laidBits());
    }

    public int lift(int s) {
        if (!house.sheets.has(s)) {
            return BAD;
        }
        if (!present.isLaid(s)) {
            return STATE;
        }
        int cell = present.cellOf(s);
        past.remember(present);
        present.put(s, NONE);
        return cell;
    }

    public int turn(int s) {
        if (!house.sheets.has(s)) {
            return BAD;
        }
        past.remember(present);
        present.wear(s, present.wornOf(s) / 2);
        return present.wornOf(s);
    }

    public int hour() {
        if (present.day >= LAST_DAY) {
            return STATE;
        }
        past.remember(present);
        floor.show(present);
        passHour(present);
        return present.hour;
    }

    public int undo() {
        if (past.size() == 0) {
            return STATE;
        }
        past.recall(present);
        return past.size();
    }

    /** All sheets wear by the same hour: the floor is told only when each of them has worn. */
    private void passHour(Moment moment) {
        for (int s = 0; s < house.sheets.size(); s++) {
            if (moment.isLaid(s)) {
                moment.wear(s, moment.wornOf(s) + hearing.loudOnSheet(s, moment.hour) / 10);
            }
        }
        for (int s = 0; s < house.sheets.size(); s++) {
            floor.setThick(s, house.thickNow(s, moment));
        }
        moment.tick();
    }

    // ---- rooms

    public int waked(int what) {
        if (!isWithin(what, 0, 1)) {
            return BAD;
        }
        floor.show(present);
        int first = hearing.firstWaked();
        return what == 0 || first == NONE ? first : hearing.firstLoudHour(first);
    }

    public int through(int what) {
        if (!isWithin(what, 0, 1)) {
            return BAD;
        }
        int first = firstThrough();
        if (first == NONE) {
            return NONE;
        }
        return what == 0 ? first / MOST_SHEETS : first % MOST_SHEETS;
    }

    /** The hours times MOST_SHEETS, and the sheet; NONE. */
    private int firstThrough() {
        ahead.copyFrom(present);
        floor.show(ahead);
        int whole = wholeBits();
        for (int hours = 1; hours <= HOURS_AHEAD && whole != 0; hours++) {
            passHour(ahead);
            for (int s = 0; s < house.sheets.size(); s++) {
                if (hasBit(whole, s) && house.thickNow(s, ahead) == 0) {
                    return hours * MOST_SHEETS + s;
                }
            }
        }
        return NONE;
    }

    /** The laid sheets that are not worn through yet, as bits. */
    private int wholeBits() {
        int bits = 0;
        for (int s = 0; s < house.sheets.size(); s++) {
            if (present.isLaid(s) && house.thickNow(s, present) > 0) {
                bits |= 1 << s;
            }
        }
        return bits;
    }

    public int toBuy(int s) {
        if (s != NONE && (!house.sheets.has(s) || present.isLaid(s))) {
            return BAD;
        }
        buyer.search(present);
        if (!buyer.hasFound()) {
            return NONE;
        }
        return s == NONE ? buyer.price() : buyer.cellOf(s);
    }

    public int gain(int s) {
        if (!house.sheets.has(s) || !present.isLaid(s)) {
            return NO;
        }
        floor.show(present);
        int with = hearing.loudInRooms();
        floor.uncover(s);
        return hearing.loudInRooms() - with;
    }

    // ---- noises

    public int hear(int c, int v) {
        if (!house.hasCell(c) || !isWithin(v, 0, MOST_STRENGTH)) {
            return BAD;
        }
        if (heard.isFull()) {
            return FULL;
        }
        heard.append(c, v, 0, 0);
        return heard.size();
    }

    public int forget(int what) {
        if (!isWithin(what, 0, 1)) {
            return BAD;
        }
        Rows reports = what == 0 ? heard : taps;
        int were = reports.size();
        reports.drop();
        return were;
    }

    public int sources() {
        floor.show(present);
        int bits = 0;
        for (int c = 0; c < house.cells; c++) {
            if (strengthsAt(c) > 0) {
                bits |= 1 << c;
            }
        }
        return bits;
    }

    public int strengths(int c) {
        if (!house.hasCell(c)) {
            return BAD;
        }
        floor.show(present);
        return strengthsAt(c);
    }

    private int strengthsAt(int c) {
        int least = 1;
        int greatest = MOST_STRENGTH;
        for (int i = 0; i < heard.size(); i++) {
            int lost = floor.lost(c, heard.get(i, 0));
            int v = heard.get(i, 1);
            greatest = Math.min(greatest, lost + v);
            // Where nothing is heard, every weaker noise would be as silent.
            if (v > 0) {
                least = Math.max(least, lost + v);
            }
        }
        return Math.max(0, greatest - least + 1);
    }

    public int hired(int from, int to, int v) {
        if (!house.hasCell(from) || !house.hasCell(to) || !isWithin(v, 1, MOST_STRENGTH)) {
            return BAD;
        }
        floor.show(present);
        int strength = floor.lost(from, to) + v;
        return strength <= MOST_STRENGTH ? strength : NONE;
    }

    public int way(int from, int to, int n) {
        if (!house.hasCell(from) || !house.hasCell(to) || !isWithin(n, 1, MOST_STRENGTH)) {
            return BAD;
        }
        floor.show(present);
        for (int c = 0; c < MOST_CELLS; c++) {
            steps[c] = NONE;
        }
        if (hearing.isUnheard(from, n)) {
            steps[from] = 0;
        }
        for (int done = 0; done < house.cells && steps[to] == NONE; done++) {
            walkOn(done, n);
        }
        return steps[to];
    }

    /** One step more from all cells that are reached in just so many. */
    private void walkOn(int done, int n) {
        for (int c = 0; c < house.cells; c++) {
            for (int side = 0; side < Floor.SIDES && steps[c] == done; side++) {
                int next = floor.nextTo(c, side);
                if (house.hasCell(next) && steps[next] == NONE && hearing.isUnheard(next, n)) {
                    steps[next] = done + 1;
                }
            }
        }
    }

    public int tap(int from, int n, int to, int v) {
        if (!house.hasCell(from) || !isWithin(n, 1, MOST_STRENGTH)) {
            return BAD;
        }
        if (!house.hasCell(to) || !isWithin(v, 0, MOST_STRENGTH)) {
            return BAD;
        }
        if (taps.isFull()) {
            return FULL;
        }
        taps.append(from, n, to, v);
        return taps.size();
    }

    public int mayBe() {
        int bits = 0;
        for (int s = 0; s < house.sheets.size(); s++) {
            if (present.isLaid(s) && tapsAgreeWithSham(s)) {
                bits |= 1 << s;
            }
        }
        return bits;
    }

    private boolean tapsAgreeWithSham(int s) {
        floor.show(present);
        floor.setThick(s, 0);
        for (int i = 0; i < taps.size(); i++) {
            if (hearing.loudBy(taps.get(i, 1), taps.get(i, 0), taps.get(i, 2)) != taps.get(i, 3)) {
                return false;
            }
        }
        return true;
    }

    public int odds(int r, int p, int what) {
        if (!house.rooms.has(r) || !isWithin(p, 0, 10) || !isWithin(what, 0, 1)) {
            return BAD;
        }
        floor.show(present);
        int upper = 1;
        int lower = 1;
        for (int n = 0; n < house.noises.size(); n++) {
            if (hearing.wakes(n, r)) {
                upper *= 10 - p;
                lower *= 10;
            }
        }
        int divisor = Math.max(1, commonDivisor(upper, lower));
        return (what == 0 ? upper : lower) / divisor;
    }

    private static int commonDivisor(int a, int b) {
        int x = a;
        int y = b;
        // Two rounds halve the lesser number at least: 64 are enough for any int.
        for (int round = 0; round < 64 && y != 0; round++) {
            int rest = x % y;
            x = y;
            y = rest;
        }
        return x;
    }

    // ---- kinds, images

    public int rate(int kind, int s) {
        if (!house.sheets.has(s)) {
            return NO;
        }
        switch (kind) {
            case 0:
                return asSheet(s);
            case 1:
                return asChurch(s);
            case 2:
                return asSnow(s);
            case 3:
                return asCrypt(s);
            case 4:
                return asSlush(s);
            case 5:
                return asBell(s);
            default:
                return NO;
        }
    }

    private int asSheet(int s) {
        traced += 1;
        return house.thickNow(s, present);
    }

    private int asChurch(int s) {
        traced += 10;
        return asSheet(s) + house.sheets.get(s, PRICE);
    }

    private int asSnow(int s) {
        traced += 100;
        return asSheet(s) - present.wornOf(s);
    }

    private int asCrypt(int s) {
        traced += 1000;
        return 2 * asChurch(s);
    }

    private int asSlush(int s) {
        traced += 10000;
        return asSnow(s) + s;
    }

    private int asBell(int s) {
        traced += 100000;
        return asSheet(s) + present.hour;
    }

    public int keep(int image) {
        if (!isWithin(image, 0, IMAGES - 1)) {
            return BAD;
        }
        images.put(image, present);
        kept[image] = true;
        return present.day;
    }

    public int back(int image) {
        if (!isWithin(image, 0, IMAGES - 1)) {
            return BAD;
        }
        if (!kept[image]) {
            return STATE;
        }
        images.bring(image, present);
        past.drop();
        return present.day;
    }

    public int count(int what) {
        switch (what) {
            case 0:
                return house.wide;
            case 1:
                return house.deep;
            case 2:
                return house.fall;
            case 3:
                return house.noises.size();
            case 4:
                return house.sheets.size();
            case 5:
                return house.rooms.size();
            case 6:
                return heard.size();
            case 7:
                return taps.size();
            case 8:
                return text.size();
            default:
                return BAD;
        }
    }

    public long trace() {
        return traced;
    }

    private static boolean isWithin(int number, int least, int greatest) {
        return number >= least && number <= greatest;
    }

    private static boolean hasBit(int bits, int place) {
        return (bits >> place & 1) == 1;
    }

    /** A short list whose entries have four numbers each. */
    private static final class Rows {
        private static final int NUMBERS = 4;

        private final int most;
        private final int[] numbers;
        private int entries;

        Rows(int most) {
            this.most = Math.max(0, most);
            numbers = new int[this.most * NUMBERS];
        }

        int size() {
            return entries;
        }

        boolean has(int i) {
            return i >= 0 && i < entries;
        }

        boolean isFull() {
            return entries >= most;
        }

        int get(int i, int what) {
            return has(i) && what >= 0 && what < NUMBERS ? numbers[i * NUMBERS + what] : 0;
        }

        void append(int first, int second, int third, int fourth) {
            if (isFull()) {
                return;
            }
            int at = entries * NUMBERS;
            numbers[at] = first;
            numbers[at + 1] = second;
            numbers[at + 2] = third;
            numbers[at + 3] = fourth;
            entries++;
        }

        void drop() {
            entries = 0;
        }

        void copyFrom(Rows other) {
            drop();
            for (int i = 0; i < other.size(); i++) {
                append(other.get(i, 0), other.get(i, 1), other.get(i, 2), other.get(i, 3));
            }
        }
    }

    /** What a text told. */
    private static final class House {
        private final Rows noises = new Rows(MOST_NOISES);
        private final Rows sheets = new Rows(MOST_SHEETS);
        private final Rows rooms = new Rows(MOST_ROOMS);
        private int wide;
        private int deep;
        private int cells;
        private int fall;
        private boolean fallTold;

        House() {
            begin();
        }

        void begin() {
            form(3, 2);
            fall = 5;
            fallTold = false;
            noises.drop();
            sheets.drop();
            rooms.drop();
        }

        void copyFrom(House other) {
            form(other.wide, other.deep);
            fall = other.fall;
            fallTold = other.fallTold;
            noises.copyFrom(other.noises);
            sheets.copyFrom(other.sheets);
            rooms.copyFrom(other.rooms);
        }

        void form(int newWide, int newDeep) {
            wide = newWide;
            deep = newDeep;
            cells = Math.min(MOST_CELLS, newWide * newDeep);
        }

        boolean hasCell(int c) {
            return c >= 0 && c < cells;
        }

        int thickNow(int s, Moment moment) {
            return Math.max(0, sheets.get(s, THICK) - moment.wornOf(s) / 10);
        }
    }

    /** The letters that were typed, and how they tell a house. */
    private static final class Text {
        private static final int END = -1, NUMBER = -2, WRONG_NUMBER = -3;
        private static final int FAULT = -10;
        private static final int MOST_ITEMS = 2 + MOST_NOISES + MOST_SHEETS + MOST_ROOMS;
        private static final int MOST_FIELDS = 4;

        private final int[] letters = new int[MOST_LETTERS];
        private final int[] fields = new int[MOST_FIELDS];
        private int length;
        private int at;
        private int start;
        private int token;
        private int value;

        int size() {
            return length;
        }

        boolean isFull() {
            return length >= MOST_LETTERS;
        }

        void append(int letter) {
            if (!isFull()) {
                letters[length] = letter;
                length++;
            }
        }

        void drop() {
            length = 0;
        }

        /** How many items there are; FAULT less its place, and the house is then half told. */
        int tell(House house) {
            house.begin();
            at = 0;
            for (int items = 0; items <= MOST_ITEMS; items++) {
                step();
                if (token == END) {
                    return items;
                }
                if (!mayBegin(house, items) || !tellItem(house)) {
                    break;
                }
            }
            return FAULT - start;
        }

        private boolean mayBegin(House house, int items) {
            switch (token) {
                case 'g':
                    return items == 0;
                case 'f':
                    return !house.fallTold;
                case 'n':
                    return !house.noises.isFull();
                case 's':
                    return !house.sheets.isFull();
                case 'r':
                    return !house.rooms.isFull();
                default:
                    return false;
            }
        }

        private boolean tellItem(House house) {
            int letter = token;
            int told = fieldsOf(letter);
            for (int k = 0; k < told && k < MOST_FIELDS; k++) {
                step();
                if (token != NUMBER || value < least(letter, k) || value > greatest(letter, k, house.cells)) {
                    return false;
                }
                fields[k] = value;
            }
            step();
            if (token != ';') {
                return false;
            }
            enter(house, letter);
            return true;
        }

        private static int fieldsOf(int letter) {
            if (letter == 'f') {
                return 1;
            }
            return letter == 'g' ? 2 : MOST_FIELDS;
        }

        private int least(int letter, int k) {
            switch (letter) {
                case 'n':
                    return k == NOISE_TO ? fields[NOISE_FROM] : k == STRENGTH ? 1 : 0;
                case 's':
                    return k == THICK ? 0 : 1;
                case 'r':
                    return k == ROOM_TO ? fields[ROOM_FROM] : 0;
                default:
                    return 1;
            }
        }

        private static int greatest(int letter, int k, int cells) {
            switch (letter) {
                case 'g':
                    return k == 0 ? 4 : 3;
                case 'f':
                    return 20;
                case 's':
                    return k == THICK ? 30 : k == PRICE ? 9 : 3;
                case 'n':
                    return k == CELL ? cells - 1 : k == STRENGTH ? MOST_STRENGTH : HOURS_OF_DAY - 1;
                default:
                    return k == CELL ? cells - 1 : k == MOST ? 99 : HOURS_OF_DAY - 1;
            }
        }

        private void enter(House house, int letter) {
            switch (letter) {
                case 'g':
                    house.form(fields[0], fields[1]);
                    break;
                case 'f':
                    house.fall = fields[0];
                    house.fallTold = true;
                    break;
                case 'n':
                    house.noises.append(fields[0], fields[1], fields[2], fields[3]);
                    break;
                case 's':
                    house.sheets.append(fields[0], fields[1], fields[2], fields[3]);
                    break;
                default:
                    house.rooms.append(fields[0], fields[1], fields[2], fields[3]);
                    break;
            }
        }

        /** To the next token; a letter that is none comes as itself and can stand nowhere. */
        private void step() {
            while (at < length && letters[at] == ' ') {
                at++;
            }
            start = at;
            if (at >= length) {
                token = END;
            } else if (isDigit(letters[at])) {
                stepNumber();
            } else {
                token = letters[at];
                at++;
            }
        }

        private void stepNumber() {
            boolean zeroAhead = letters[start] == '0';
            value = 0;
            while (at < length && isDigit(letters[at])) {
                // Kept at 100, so that a long number cannot wrap around to a small one.
                value = Math.min(100, value * 10 + letters[at] - '0');
                at++;
            }
            boolean wrong = value > 99 || zeroAhead && at - start > 1;
            token = wrong ? WRONG_NUMBER : NUMBER;
        }

        private static boolean isDigit(int letter) {
            return letter >= '0' && letter <= '9';
        }
    }

    /** What an image keeps, and what undo() brings again. */
    private static final class Moment {
        private final int[] cells = new int[MOST_SHEETS];
        private final int[] worn = new int[MOST_SHEETS];
        private int day;
        private int hour;

        Moment() {
            begin();
        }

        void begin() {
            day = 0;
            hour = 0;
            for (int s = 0; s < MOST_SHEETS; s++) {
                cells[s] = NONE;
                worn[s] = 0;
            }
        }

        void copyFrom(Moment other) {
            day = other.day;
            hour = other.hour;
            for (int s = 0; s < MOST_SHEETS; s++) {
                cells[s] = other.cells[s];
                worn[s] = other.worn[s];
            }
        }

        private static boolean hasSheet(int s) {
            return s >= 0 && s < MOST_SHEETS;
        }

        int cellOf(int s) {
            return hasSheet(s) ? cells[s] : NONE;
        }

        boolean isLaid(int s) {
            return cellOf(s) != NONE;
        }

        void put(int s, int cell) {
            if (hasSheet(s)) {
                cells[s] = cell;
            }
        }

        int wornOf(int s) {
            return hasSheet(s) ? worn[s] : 0;
        }

        void wear(int s, int much) {
            if (hasSheet(s)) {
                worn[s] = much;
            }
        }

        int laidBits() {
            int bits = 0;
            for (int s = 0; s < MOST_SHEETS; s++) {
                if (isLaid(s)) {
                    bits |= 1 << s;
                }
            }
            return bits;
        }

        void tick() {
            hour++;
            if (hour >= HOURS_OF_DAY) {
                hour = 0;
                day++;
            }
        }
    }

    /** Places for moments, which are kept by their numbers: so no place is ever without one. */
    private static final class Shelf {
        private static final int NUMBERS = 2 + 2 * MOST_SHEETS;

        private final int places;
        private final int[] numbers;

        Shelf(int places) {
            this.places = Math.max(0, places);
            numbers = new int[this.places * NUMBERS];
        }

        private boolean hasPlace(int place) {
            return place >= 0 && place < places;
        }

        void put(int place, Moment moment) {
            if (!hasPlace(place)) {
                return;
            }
            int at = place * NUMBERS;
            numbers[at] = moment.day;
            numbers[at + 1] = moment.hour;
            for (int s = 0; s < MOST_SHEETS; s++) {
                numbers[at + 2 + s] = moment.cellOf(s);
                numbers[at + 2 + MOST_SHEETS + s] = moment.wornOf(s);
            }
        }

        void bring(int place, Moment moment) {
            if (!hasPlace(place)) {
                return;
            }
            int at = place * NUMBERS;
            moment.day = numbers[at];
            moment.hour = numbers[at + 1];
            for (int s = 0; s < MOST_SHEETS; s++) {
                moment.put(s, numbers[at + 2 + s]);
                moment.wear(s, numbers[at + 2 + MOST_SHEETS + s]);
            }
        }
    }

    /** The moments ahead of the latest deeds, in a ring: the oldest one gives way. */
    private static final class Past {
        private static final int MOST_KNOWN = 10;

        private final Shelf moments = new Shelf(MOST_KNOWN);
        private int free;
        private int known;

        int size() {
            return known;
        }

        void drop() {
            known = 0;
        }

        void remember(Moment moment) {
            moments.put(free, moment);
            free = (free + 1) % MOST_KNOWN;
            known = Math.min(MOST_KNOWN, known + 1);
        }

        void recall(Moment moment) {
            if (known == 0) {
                return;
            }
            free = (free + MOST_KNOWN - 1) % MOST_KNOWN;
            known--;
            moments.bring(free, moment);
        }
    }

    /** Where sheets lie and how thick, now or in a what-if, and what a noise loses between cells. */
    private static final class Floor {
        private static final int SIDES = 4;
        private static final int FAR = 1000000;

        private final House house;
        private final int[] sheetOn = new int[MOST_CELLS];
        private final int[] thick = new int[MOST_SHEETS];
        private final int[] next = new int[MOST_CELLS * SIDES];
        private final int[] stepLoss = new int[MOST_CELLS * SIDES];
        // A row for each cell that a noise may come from; made when it is first asked for.
        private final int[] loss = new int[MOST_CELLS * MOST_CELLS];
        private final boolean[] known = new boolean[MOST_CELLS];

        Floor(House house) {
            this.house = house;
            measure();
        }

        /** To be called when the house has another form. */
        void measure() {
            for (int c = 0; c < MOST_CELLS; c++) {
                for (int side = 0; side < SIDES; side++) {
                    next[c * SIDES + side] = house.hasCell(c) ? neighbour(c, side) : NONE;
                }
            }
        }

        private int neighbour(int c, int side) {
            int wide = house.wide;
            if (wide < 1) {
                return NONE;
            }
            switch (side) {
                case 0:
                    return c >= wide ? c - wide : NONE;
                case 1:
                    return c % wide > 0 ? c - 1 : NONE;
                case 2:
                    return c % wide < wide - 1 ? c + 1 : NONE;
                default:
                    return house.hasCell(c + wide) ? c + wide : NONE;
            }
        }

        int nextTo(int c, int side) {
            return house.hasCell(c) && side >= 0 && side < SIDES ? next[c * SIDES + side] : NONE;
        }

        void show(Moment moment) {
            for (int c = 0; c < MOST_CELLS; c++) {
                sheetOn[c] = NONE;
            }
            for (int s = 0; s < house.sheets.size() && s < MOST_SHEETS; s++) {
                thick[s] = house.thickNow(s, moment);
                if (moment.isLaid(s)) {
                    spreadOut(s, moment.cellOf(s));
                }
            }
            weighSteps();
        }

        /** Behind every change of the floor: what was known of losses is so no more. */
        private void weighSteps() {
            for (int c = 0; c < house.cells; c++) {
                known[c] = false;
                for (int side = 0; side < SIDES; side++) {
                    int to = next[c * SIDES + side];
                    if (house.hasCell(to)) {
                        stepLoss[c * SIDES + side] = house.fall + taken(c, to);
                    }
                }
            }
        }

        /** What the sheet on a cell takes from a noise that comes from the cell beside it. */
        private int taken(int from, int to) {
            int s = sheetOn[to];
            if (s < 0 || s >= MOST_SHEETS) {
                return 0;
            }
            boolean leaks = sheetOn[from] != NONE && sheetOn[from] != s;
            return leaks ? thick[s] / 2 : thick[s];
        }

        void setThick(int s, int much) {
            if (s >= 0 && s < MOST_SHEETS && thick[s] != much) {
                thick[s] = much;
                weighSteps();
            }
        }

        int sheetOn(int c) {
            return house.hasCell(c) ? sheetOn[c] : NONE;
        }

        boolean canLie(int s, int c) {
            int wide = house.wide;
            if (wide < 1 || !house.hasCell(c)) {
                return false;
            }
            if (c % wide + house.sheets.get(s, WIDE) > wide || c / wide + house.sheets.get(s, LONG) > house.deep) {
                return false;
            }
            for (int row = 0; row < house.sheets.get(s, LONG); row++) {
                for (int column = 0; column < house.sheets.get(s, WIDE); column++) {
                    if (sheetOn(c + row * wide + column) != NONE) {
                        return false;
                    }
                }
            }
            return true;
        }

        private void spreadOut(int s, int c) {
            for (int row = 0; row < house.sheets.get(s, LONG); row++) {
                for (int column = 0; column < house.sheets.get(s, WIDE); column++) {
                    int cell = c + row * house.wide + column;
                    if (house.hasCell(cell)) {
                        sheetOn[cell] = s;
                    }
                }
            }
        }

        void cover(int s, int c) {
            spreadOut(s, c);
            weighSteps();
        }

        void uncover(int s) {
            for (int c = 0; c < MOST_CELLS; c++) {
                if (sheetOn[c] == s) {
                    sheetOn[c] = NONE;
                }
            }
            weighSteps();
        }

        /** What a noise loses on its best way. */
        int lost(int from, int to) {
            if (!house.hasCell(from) || !house.hasCell(to)) {
                return FAR;
            }
            if (!known[from]) {
                sound(from);
            }
            return loss[from * MOST_CELLS + to];
        }

        private void sound(int from) {
            int cells = house.cells;
            int row = from * MOST_CELLS;
            for (int c = 0; c < cells; c++) {
                loss[row + c] = c == from ? 0 : FAR;
            }
            boolean better = true;
            // A best way has fewer steps than there are cells, and each round settles one more.
            for (int round = 0; round < cells && better; round++) {
                better = false;
                for (int i = 0; i < cells; i++) {
                    // To and fro, so that few rounds are needed.
                    int c = round % 2 == 0 ? i : cells - 1 - i;
                    better |= passOn(row, c, cells);
                }
            }
            known[from] = true;
        }

        private boolean passOn(int row, int c, int cells) {
            boolean better = false;
            int lostHere = loss[row + c];
            for (int side = c * SIDES; side < (c + 1) * SIDES; side++) {
                int to = next[side];
                if (to >= 0 && to < cells && lostHere + stepLoss[side] < loss[row + to]) {
                    loss[row + to] = lostHere + stepLoss[side];
                    better = true;
                }
            }
            return better;
        }
    }

    /** How loud it is, by the floor as it is shown. */
    private static final class Hearing {
        private final House house;
        private final Floor floor;

        Hearing(House house, Floor floor) {
            this.house = house;
            this.floor = floor;
        }

        int loudBy(int strength, int from, int to) {
            return Math.max(0, strength - floor.lost(from, to));
        }

        /** In the loudest of some hours. */
        int loudWithin(int c, int first, int last) {
            int loudest = 0;
            for (int n = 0; n < house.noises.size(); n++) {
                if (house.noises.get(n, NOISE_FROM) <= last && house.noises.get(n, NOISE_TO) >= first) {
                    int heard = house.noises.get(n, STRENGTH) - floor.lost(house.noises.get(n, CELL), c);
                    loudest = Math.max(loudest, heard);
                }
            }
            return loudest;
        }

        int loudOnSheet(int s, int hour) {
            int loudest = 0;
            for (int c = 0; c < house.cells; c++) {
                if (floor.sheetOn(c) == s) {
                    loudest = Math.max(loudest, loudWithin(c, hour, hour));
                }
            }
            return loudest;
        }

        int loudInRooms() {
            Rows rooms = house.rooms;
            int together = 0;
            for (int r = 0; r < rooms.size(); r++) {
                together += loudWithin(rooms.get(r, CELL), rooms.get(r, ROOM_FROM), rooms.get(r, ROOM_TO));
            }
            return together;
        }

        int firstWaked() {
            Rows rooms = house.rooms;
            for (int r = 0; r < rooms.size(); r++) {
                int loud = loudWithin(rooms.get(r, CELL), rooms.get(r, ROOM_FROM), rooms.get(r, ROOM_TO));
                if (loud > rooms.get(r, MOST)) {
                    return r;
                }
            }
            return NONE;
        }

        int firstLoudHour(int r) {
            for (int hour = house.rooms.get(r, ROOM_FROM); hour < HOURS_OF_DAY; hour++) {
                if (loudWithin(house.rooms.get(r, CELL), hour, hour) > house.rooms.get(r, MOST)) {
                    return hour;
                }
            }
            return NONE;
        }

        boolean wakes(int n, int r) {
            int loud = loudBy(house.noises.get(n, STRENGTH), house.noises.get(n, CELL), house.rooms.get(r, CELL));
            return loud > house.rooms.get(r, MOST);
        }

        /** Whether no room hears above its most a noise of n at a cell. */
        boolean isUnheard(int c, int n) {
            for (int r = 0; r < house.rooms.size(); r++) {
                if (loudBy(n, c, house.rooms.get(r, CELL)) > house.rooms.get(r, MOST)) {
                    return false;
                }
            }
            return true;
        }
    }

    /**
     * Tries all ways to lay two sheets at most. A way's rank orders the ways as they are to be
     * chosen: the price, then a digit for each sheet (0: not laid; else its cell and 1).
     */
    private static final class Buyer {
        private static final int DIGITS = MOST_CELLS + 1;
        private static final int RANKS_OF_PRICE = DIGITS * DIGITS * DIGITS * DIGITS;
        private static final int NOT_FOUND = 1000 * RANKS_OF_PRICE;

        private final House house;
        private final Floor floor;
        private final Hearing hearing;
        private int best = NOT_FOUND;

        Buyer(House house, Floor floor, Hearing hearing) {
            this.house = house;
            this.floor = floor;
            this.hearing = hearing;
        }

        void search(Moment moment) {
            int lays = house.sheets.size() * MOST_CELLS;
            floor.show(moment);
            best = hearing.firstWaked() == NONE ? 0 : NOT_FOUND;
            for (int first = 0; first < lays; first++) {
                if (!tryLaying(first, 0, moment)) {
                    continue;
                }
                int rank = rankOf(first);
                int others = (first / MOST_CELLS + 1) * MOST_CELLS;
                for (int second = others; second < lays; second++) {
                    if (tryLaying(second, rank, moment)) {
                        floor.uncover(second / MOST_CELLS);
                    }
                }
                floor.uncover(first / MOST_CELLS);
            }
        }

        /** Lays one sheet more (a lay is its sheet and its cell in one number), if that may be best. */
        private boolean tryLaying(int lay, int rankBefore, Moment moment) {
            int s = lay / MOST_CELLS;
            int c = lay % MOST_CELLS;
            int rank = rankBefore + rankOf(lay);
            if (rank >= best || moment.isLaid(s) || !floor.canLie(s, c)) {
                return false;
            }
            floor.cover(s, c);
            if (hearing.firstWaked() == NONE) {
                best = rank;
            }
            return true;
        }

        private int rankOf(int lay) {
            int s = lay / MOST_CELLS;
            int digit = lay % MOST_CELLS + 1;
            for (int place = MOST_SHEETS - 1; place > s; place--) {
                digit *= DIGITS;
            }
            return house.sheets.get(s, PRICE) * RANKS_OF_PRICE + digit;
        }

        boolean hasFound() {
            return best < NOT_FOUND;
        }

        int price() {
            return best / RANKS_OF_PRICE;
        }

        int cellOf(int s) {
            int digits = best;
            for (int place = MOST_SHEETS - 1; place > s; place--) {
                digits /= DIGITS;
            }
            return digits % DIGITS == 0 ? NOT_BOUGHT : digits % DIGITS - 1;
        }
    }
}
