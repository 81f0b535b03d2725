import java.util.Arrays;
import java.util.NoSuchElementException;

/** A house of seats whose people clap and stand by what they perceive of one another. */
public final class HouseClaps {
    public static final int NONE = -1;

    private static final int NOT_AS_TOLD = -2;
    private static final int TAPE_BYTES = 940;
    private static final int HOUSE_BYTES = 900;
    private static final int CUE_BYTES = 400;
    private static final int FED_BYTES = 20;
    private static final int CELLS = 64;
    private static final int SIDE = 8;
    private static final int KINDS = 6;
    private static final int LAWS = 12;
    private static final int ONES = 20;
    private static final int WITHIN = 8;
    private static final int CUES = 30;
    private static final int LAST_MOMENT = 600;
    private static final int JUDGED_MOMENT = 60;
    private static final int SMALL_HOUSE = 24;
    private static final int HANDS = 8;
    private static final int ONE_SIDE = 6;
    private static final int ARRANGED_TIMES = 20;
    private static final int IMAGES = 2;
    private static final int DRAW_FACTOR = 1103515245;
    private static final int DRAW_STEP = 12345;

    /** What a ONE is: the six AREAS first, in the document's order. */
    private static final int AREAS = 6;
    private static final int SEEN = 4;
    private static final int SELF = 6;
    private static final int HELD = 7;
    private static final int NOT = 8;
    private static final int GROUP = 9;

    private static final int PAY = 0;
    private static final int HISS = 1;
    private static final int STILL = 3;

    /** Tables of words, each filled up to eight signs, so that a word's number is its place. */
    private static final int WORD_SIZE = 8;
    private static final String LINE_WORDS = "row     up      down    price   leaves  carry   paid    rows    ";
    private static final String ONE_WORDS = "near    ahead   beside  behind  seen    house   self    held    not     ";
    private static final String JOIN_WORDS = "and     or      ";
    private static final String AT_WORD = "at      ";
    private static final String CUE_WORDS = "pay     hiss    free    still   ";

    private final Tape tape = new Tape();
    private final Evening now = new Evening();
    private final Evening draft = new Evening();
    private final Evening[] kept = new Evening[IMAGES];
    private final Tokens tokens = new Tokens(tape);
    private final HouseText houseText = new HouseText(tokens, draft.house);
    private final CueText cueText = new CueText(tokens, now.house, draft);
    private final Diary diary = new Diary(now);
    private final Trials trials = new Trials(now, tape);
    private int fault;
    private int arrangedTimes;

    public HouseClaps() {
        fault = 0;
        arrangedTimes = 0;
    }

    public int feed(int a, int b, int c, int d, int e) {
        if (tape.length + FED_BYTES > TAPE_BYTES) {
            return NONE;
        }
        tape.put(a);
        tape.put(b);
        tape.put(c);
        tape.put(d);
        tape.put(e);
        return tape.length;
    }

    public boolean end(int n) {
        if (n < 0 || n > tape.length) {
            return false;
        }
        tape.length = n;
        return true;
    }

    public int house() {
        draft.clear();
        tokens.open(tape.take(), HOUSE_BYTES);
        houseText.open();
        int lines = 0;
        while (lines < HOUSE_BYTES && tokens.kind != Tokens.END && houseText.readLine()) {
            lines++;
        }
        fault = tokens.fault;
        if (fault != 0) {
            return -1 - tokens.place;
        }
        draft.house.survey();
        now.takeAll(draft);
        diary.forget();
        return lines;
    }

    public int fault() {
        return fault;
    }

    public int seat(int s, int what) throws NoSuchElementException {
        if (!now.house.isSeat(s) || what < 0 || what > 4) {
            throw new NoSuchElementException();
        }
        switch (what) {
            case 0:
                return now.house.kinds[s];
            case 1:
                return now.house.priceOf(s);
            case 2:
                return now.house.leavesOf(s);
            case 3:
                return bitOf(now.paid, s);
            default:
                return bitOf(now.hissing, s);
        }
    }

    public int law(int kind, int what) {
        if (kind < 0 || kind >= KINDS || what < 0 || what > 1) {
            return NONE;
        }
        return now.house.told[2 * kind + what];
    }

    public boolean pay(int s, int is) {
        if (!now.house.isSeat(s) || is < 0 || is > 1) {
            return false;
        }
        now.paid = withBit(now.paid, s, is);
        diary.forget();
        return true;
    }

    public boolean hiss(int s, int is) {
        if (!now.house.isSeat(s) || is < 0 || is > 1) {
            return false;
        }
        now.hissing = withBit(now.hissing, s, is);
        diary.forget();
        return true;
    }

    public int cues() {
        tokens.open(tape.take(), CUE_BYTES);
        cueText.readCues();
        fault = tokens.fault;
        if (fault != 0) {
            return -1 - tokens.place;
        }
        now.takeCues(draft);
        diary.forget();
        return now.cueCount;
    }

    public int cue(int i, int what) throws NoSuchElementException {
        if (i < 0 || i >= now.cueCount || what < 0 || what > 2) {
            throw new NoSuchElementException();
        }
        if (what == 0) {
            return now.cueMoment[i];
        }
        return what == 1 ? now.cueDeed[i] : now.cueSeat[i];
    }

    public int sees(int s, int t, int area, int level) {
        if (!now.house.isSeat(s) || !isMoment(t)) {
            return NONE;
        }
        if (area < 0 || area >= AREAS || level < 1 || level > 2) {
            return NONE;
        }
        int m = diary.reach(t);
        long those = level == 1 ? diary.claps[m] : diary.stands[m];
        return Long.bitCount(those & now.house.areas[area * CELLS + s]);
    }

    public int at(int s, int t, int what) {
        if (!now.house.isSeat(s) || !isMoment(t) || what < 0 || what > 1) {
            return NONE;
        }
        int m = diary.reach(t);
        if (what == 0) {
            return bitOf(diary.claps[m], s) + bitOf(diary.stands[m], s);
        }
        return bitOf(diary.heldLow[m], s) + 2 * bitOf(diary.heldHigh[m], s);
    }

    public int many(int t, int level) {
        if (!isMoment(t) || level < 0 || level > 2) {
            return NONE;
        }
        if (level == 0) {
            return Long.bitCount(now.house.seats);
        }
        int m = diary.reach(t);
        return Long.bitCount(level == 1 ? diary.claps[m] : diary.stands[m]);
    }

    public int would(int s, int t, int what) {
        if (!now.house.isSeat(s) || !isMoment(t) || what < 0 || what > 1) {
            return NONE;
        }
        int law = 2 * now.house.kinds[s] + what;
        if (now.house.told[law] == NONE) {
            return NONE;
        }
        trials.night.beAs(diary, diary.reach(t));
        return trials.night.doesHold(law, s) ? 1 : 0;
    }

    public int stands(int s) {
        if (!now.house.isSeat(s)) {
            return NONE;
        }
        for (int t = 0; t <= LAST_MOMENT; t++) {
            int m = diary.reach(t);
            if (m < t) {
                return NONE;
            }
            if (bitOf(diary.stands[m], s) == 1) {
                return t;
            }
        }
        return NONE;
    }

    public int anyway(int t) {
        if (!isMoment(t)) {
            return NONE;
        }
        trials.night.begin(0L, now.hissing);
        trials.night.goTo(t);
        return Long.bitCount(diary.stands[diary.reach(t)] & trials.night.stands);
    }

    public int up() {
        for (int t = 0; t <= LAST_MOMENT; t++) {
            int m = diary.reach(t);
            if (m < t) {
                return NONE;
            }
            if (diary.isUp(m)) {
                return t;
            }
        }
        return NONE;
    }

    public int calls(int t) {
        if (!isMoment(t)) {
            return NONE;
        }
        int calls = 0;
        boolean wasUp = false;
        for (int each = 0; each <= t; each++) {
            int m = diary.reach(each);
            if (m < each) {
                return calls;
            }
            boolean isUp = diary.isUp(m);
            if (isUp && !wasUp) {
                calls++;
            }
            wasUp = isUp;
        }
        return calls;
    }

    public int again(int what) {
        if (what < 0 || what > 1) {
            return NONE;
        }
        for (int m = now.againFrom(); m < LAST_MOMENT; m++) {
            int later = diary.likeBehind(m);
            if (later != NONE) {
                return what == 0 ? m : later - m;
            }
        }
        return NONE;
    }

    public int carries(int what) {
        if (what < 0 || what > 1) {
            return NONE;
        }
        int height = diary.height();
        if (what == 1) {
            return height;
        }
        return height >= now.house.carry ? 1 : 0;
    }

    public int cheapest() {
        int n = tape.take();
        return trials.areHands(n) ? trials.cheapestOf(n) : NOT_AS_TOLD;
    }

    public int bought() {
        return trials.bought;
    }

    public int hush() {
        int n = tape.take();
        return trials.areHands(n) ? trials.hushOf(n) : NOT_AS_TOLD;
    }

    public int coalitions(int k) {
        int n = tape.take();
        if (!trials.areHands(n)) {
            return NOT_AS_TOLD;
        }
        int many = trials.coalitionsOf(n);
        if (k == NONE) {
            return many;
        }
        return k >= 0 && k < many ? trials.found[k] : NONE;
    }

    public int worth() {
        int n = tape.take();
        return trials.areHands(n) ? trials.worthOfAll(n) : NONE;
    }

    public int worthOf(int i, int what) throws NoSuchElementException {
        if (i < 0 || i >= trials.hands || what < 0 || what > 1) {
            throw new NoSuchElementException();
        }
        int orders = trials.factorial(trials.hands);
        int common = trials.commonDivisor(orders, Math.abs(trials.adds[i]));
        if (common < 1) {
            return 0;
        }
        return (what == 0 ? trials.adds[i] : orders) / common;
    }

    public int sides() {
        int n = tape.take();
        int first = n > 0 ? tape.bytes[0] : 0;
        int second = n - 1 - first;
        if (first < 1 || first > ONE_SIDE || second < 1 || second > ONE_SIDE) {
            return NONE;
        }
        return trials.areUnlikeSeats(1, n) ? trials.sidesOf(first, n) : NONE;
    }

    public int side(int what) {
        switch (what) {
            case 0:
                return trials.secondSure;
            case 1:
                return trials.firstSeat;
            case 2:
                return trials.secondSeat;
            default:
                return NONE;
        }
    }

    public int began(int t) {
        int n = tape.take();
        if (t < 0 || t > JUDGED_MOMENT || isLarge() || n != now.house.cells()) {
            return NONE;
        }
        return trials.readSketch(n) ? trials.beganBy(t) : NONE;
    }

    public int beganAt(int what) {
        if (what == 0) {
            return trials.beganFirst;
        }
        return what == 1 ? trials.beganSecond : NONE;
    }

    public int parts(int a, int b) {
        if (!now.house.isSeat(a) || !now.house.isSeat(b)) {
            return NONE;
        }
        return trials.partOf(1L << a, 1L << b);
    }

    public int exchanged() {
        if (isLarge() || diary.height() >= now.house.carry) {
            return NONE;
        }
        int pair = trials.firstPairAbove(now.house.carry - 1);
        return pair == NONE ? NONE : pair / CELLS * 100 + pair % CELLS;
    }

    public boolean exchange(int a, int b) {
        if (!now.house.isSeat(a) || !now.house.isSeat(b) || a == b) {
            return false;
        }
        now.house.exchangeKinds(a, b);
        diary.forget();
        return true;
    }

    public int starts(int s) {
        if (!now.house.isSeat(s)) {
            return NONE;
        }
        return trials.night.heightOf(1L << s, now.hissing, CELLS);
    }

    public int leader(int what) {
        if (what < 0 || what > 1) {
            return NONE;
        }
        int leader = NONE;
        int most = NONE;
        for (int s = 0; s < CELLS; s++) {
            int starts = starts(s);
            if (starts > most || leader != NONE && starts == most
                    && now.house.priceOf(s) < now.house.priceOf(leader)) {
                leader = s;
                most = starts;
            }
        }
        return what == 0 ? leader : most;
    }

    public boolean drawn(int n, int seed) {
        int all = Long.bitCount(now.house.seats);
        if (n < 1 || n > all) {
            return false;
        }
        long left = now.house.seats;
        int x = seed;
        for (int i = 0; i < n && i < all; i++) {
            x = x * DRAW_FACTOR + DRAW_STEP;
            left = withoutNth(left, (x >>> 8) % (all - i));
        }
        now.paid = now.house.seats & ~left;
        diary.forget();
        return true;
    }

    public int arrange() {
        if (isLarge()) {
            return NONE;
        }
        int height = diary.height();
        int times = 0;
        while (times < ARRANGED_TIMES) {
            int pair = trials.firstPairAbove(height);
            if (pair == NONE) {
                break;
            }
            now.house.exchangeKinds(pair / CELLS, pair % CELLS);
            height = trials.night.heightOf(now.paid, now.hissing, CELLS);
            times++;
        }
        arrangedTimes = times;
        diary.forget();
        return height;
    }

    public int arranged() {
        return arrangedTimes;
    }

    public boolean image(int k) {
        if (k < 0 || k >= IMAGES) {
            return false;
        }
        if (kept[k] == null) {
            kept[k] = new Evening();
        }
        kept[k].takeAll(now);
        return true;
    }

    public boolean restore(int k) {
        if (k < 0 || k >= IMAGES || kept[k] == null) {
            return false;
        }
        now.takeAll(kept[k]);
        diary.forget();
        return true;
    }

    public int count(int what) {
        switch (what) {
            case 0:
                return now.house.rows;
            case 1:
                return now.house.columns;
            case 2:
                return Long.bitCount(now.house.seats);
            case 3:
                return now.house.carry;
            case 4:
                return now.house.paidUntil;
            case 5:
                return now.house.rowByRow ? 1 : 0;
            case 6:
                return Long.bitCount(now.paid);
            case 7:
                return Long.bitCount(now.hissing);
            case 8:
                return tape.length;
            case 9:
                return now.cueCount;
            default:
                return NONE;
        }
    }

    private boolean isLarge() {
        return Long.bitCount(now.house.seats) > SMALL_HOUSE;
    }

    private static boolean isMoment(int t) {
        return t >= 0 && t <= LAST_MOMENT;
    }

    private static int bitOf(long set, int s) {
        return (int) (set >>> s & 1L);
    }

    private static long withBit(long set, int s, int is) {
        return set & ~(1L << s) | (long) is << s;
    }

    /** The set without that one of its members that has n lesser ones. */
    private static long withoutNth(long set, int n) {
        int lesser = 0;
        for (int s = 0; s < CELLS; s++) {
            if (bitOf(set, s) == 1) {
                if (lesser == n) {
                    return set & ~(1L << s);
                }
                lesser++;
            }
        }
        return set;
    }

    /** The bytes that were fed. A call that takes them empties the tape, but may still read them. */
    private static final class Tape {
        final int[] bytes = new int[TAPE_BYTES];
        int length;

        void put(int four) {
            for (int shift = 24; shift >= 0 && length < TAPE_BYTES; shift -= 8) {
                bytes[length] = four >>> shift & 255;
                length++;
            }
        }

        int take() {
            int n = length;
            length = 0;
            return n;
        }
    }

    /** The TOKENS of a text on the tape, one at a time, and the first FAULT that was found. */
    private static final class Tokens {
        static final int NO_TOKEN = 0;
        static final int END = 1;
        static final int WORD = 2;
        static final int NUMBER = 3;

        final int[] bytes;
        int length;
        /** Where the text ends or is too long: no TOKEN begins there or behind. */
        int edge;
        int kind;
        int place;
        int stop;
        int value;
        int taken;
        int fault;

        Tokens(Tape tape) {
            bytes = tape.bytes;
        }

        void open(int textLength, int limit) {
            length = Math.min(textLength, bytes.length);
            edge = Math.min(length, limit);
            stop = 0;
            fault = 0;
            read();
        }

        /** On to the next TOKEN; other kinds than those named above are the sign itself. */
        void read() {
            while (stop < length && (bytes[stop] == ' ' || bytes[stop] == '\n')) {
                stop++;
            }
            if (stop >= edge) {
                place = edge;
                kind = length > edge ? NO_TOKEN : END;
                return;
            }
            place = stop;
            int letters = 0;
            int digits = 0;
            value = 0;
            int sign = bytes[stop];
            while (stop < length && (sign >= 'a' && sign <= 'z' || sign >= '0' && sign <= '9')) {
                if (sign >= 'a') {
                    letters++;
                } else {
                    digits++;
                    value = value * 10 + sign - '0';
                }
                stop++;
                sign = stop < length ? bytes[stop] : ' ';
            }
            if (letters + digits == 0) {
                stop++;
                boolean known = sign == ';' || sign == '(' || sign == ')' || sign >= '<' && sign <= '>';
                kind = known ? sign : NO_TOKEN;
            } else if (digits == 0) {
                kind = letters <= WORD_SIZE ? WORD : NO_TOKEN;
            } else {
                kind = letters == 0 && digits <= 3 ? NUMBER : NO_TOKEN;
            }
        }

        int size() {
            return stop - place;
        }

        /** A sign of the TOKEN that stands here; a blank behind it. */
        int sign(int i) {
            return i >= 0 && place + i < stop && place + i < bytes.length ? bytes[place + i] : ' ';
        }

        /** Which word of a table stands here; NONE: none of them. */
        int among(String table) {
            if (kind != WORD) {
                return NONE;
            }
            for (int from = 0; from + WORD_SIZE <= table.length(); from += WORD_SIZE) {
                if (isSameWord(table, from)) {
                    return from / WORD_SIZE;
                }
            }
            return NONE;
        }

        private boolean isSameWord(String table, int from) {
            for (int i = 0; i < WORD_SIZE && from + i < table.length(); i++) {
                if (table.charAt(from + i) != sign(i)) {
                    return false;
                }
            }
            return true;
        }

        boolean fail(int faultKind) {
            fault = faultKind;
            return false;
        }

        /** Stays at the NUMBER, because a caller may still find another FAULT in it. */
        boolean isNumberWithin(int least, int most) {
            if (kind != NUMBER) {
                fault = 1;
            } else if (value < least || value > most) {
                fault = 2;
            }
            return fault == 0;
        }

        /** Goes on behind the NUMBER, which stays in taken. */
        boolean takeNumber(int least, int most) {
            if (!isNumberWithin(least, most)) {
                return false;
            }
            taken = value;
            read();
            return true;
        }

        boolean pass(int sign) {
            if (kind != sign) {
                return fail(1);
            }
            read();
            return true;
        }
    }

    /** Reads a HOUSE into a cleared one. */
    private static final class HouseText {
        final Tokens tokens;
        final House house;
        int ones;
        int pricesTold;
        boolean carryTold;
        boolean paidTold;
        /** What the latest readCompare read: LEVEL, SIGN and NUMBER, packed. */
        int compared;

        HouseText(Tokens tokens, House house) {
            this.tokens = tokens;
            this.house = house;
        }

        void open() {
            pricesTold = 0;
            carryTold = false;
            paidTold = false;
        }

        boolean readLine() {
            boolean read;
            switch (tokens.among(LINE_WORDS)) {
                case 0:
                    read = readRow();
                    break;
                case 1:
                    read = readLaw(0);
                    break;
                case 2:
                    read = readLaw(1);
                    break;
                case 3:
                    read = readPrice();
                    break;
                case 4:
                    read = readLeaves();
                    break;
                case 5:
                    read = readCarry();
                    break;
                case 6:
                    read = readPaid();
                    break;
                case 7:
                    read = readRowByRow();
                    break;
                default:
                    read = tokens.fail(1);
            }
            return read && tokens.pass(';');
        }

        private boolean readRow() {
            if (house.rows >= SIDE) {
                return tokens.fail(4);
            }
            tokens.read();
            if (tokens.kind != Tokens.WORD) {
                return tokens.fail(1);
            }
            int columns = tokens.size();
            if (columns > SIDE || house.rows > 0 && columns != house.columns) {
                return tokens.fail(2);
            }
            house.columns = columns;
            for (int c = 0; c < columns; c++) {
                int letter = tokens.sign(c);
                if (letter != 'x' && !isKind(letter)) {
                    return tokens.fail(2);
                }
                house.kinds[house.rows * columns + c] = letter == 'x' ? NONE : letter - 'a';
            }
            house.rows++;
            tokens.read();
            return true;
        }

        private static boolean isKind(int letter) {
            return letter >= 'a' && letter < 'a' + KINDS;
        }

        private boolean readLaw(int what) {
            tokens.read();
            if (tokens.kind != Tokens.WORD) {
                return tokens.fail(1);
            }
            if (tokens.size() != 1 || !isKind(tokens.sign(0))) {
                return tokens.fail(2);
            }
            int law = 2 * (tokens.sign(0) - 'a') + what;
            if (house.told[law] != NONE) {
                return tokens.fail(3);
            }
            tokens.read();
            ones = 0;
            if (!readJoined(law * ONES, 1)) {
                return false;
            }
            house.told[law] = ones;
            return true;
        }

        /** A COND whose ONES stand that deep within one another. */
        private boolean readJoined(int first, int depth) {
            if (!readOne(first, 0, depth)) {
                return false;
            }
            for (int i = 0; i < ONES; i++) {
                int join = tokens.among(JOIN_WORDS);
                if (join == NONE) {
                    return true;
                }
                tokens.read();
                if (!readOne(first, join, depth)) {
                    return false;
                }
            }
            return true;
        }

        /** A ONE takes the next place of its law, and those within it the places behind. */
        private boolean readOne(int first, int join, int depth) {
            int what = tokens.kind == '(' ? GROUP : tokens.among(ONE_WORDS);
            if (what == NONE) {
                return tokens.fail(1);
            }
            if (ones >= ONES || depth > WITHIN) {
                return tokens.fail(4);
            }
            int place = ones;
            ones++;
            tokens.read();
            int packed = join << House.JOIN_SHIFT | what << House.WHAT_SHIFT;
            if (what == GROUP) {
                if (!readJoined(first, depth + 1) || !tokens.pass(')')) {
                    return false;
                }
            } else if (what == NOT) {
                if (!readOne(first, 0, depth + 1)) {
                    return false;
                }
            } else if (readCompare(what < AREAS)) {
                packed |= compared;
            } else {
                return false;
            }
            house.ones[first + place] = packed | ones - place << House.SIZE_SHIFT;
            return true;
        }

        private boolean readCompare(boolean withLevel) {
            compared = 0;
            if (withLevel) {
                if (!tokens.takeNumber(1, 2)) {
                    return false;
                }
                compared = tokens.taken << House.LEVEL_SHIFT;
            }
            if (tokens.kind < '<' || tokens.kind > '>') {
                return tokens.fail(1);
            }
            compared |= tokens.kind - '<' << House.SIGN_SHIFT;
            tokens.read();
            if (!tokens.takeNumber(0, House.NUMBER_MOST)) {
                return false;
            }
            compared |= tokens.taken;
            return true;
        }

        private boolean readPrice() {
            tokens.read();
            if (!tokens.isNumberWithin(0, house.rows - 1)) {
                return false;
            }
            int row = tokens.value;
            if ((pricesTold >>> row & 1) != 0) {
                return tokens.fail(3);
            }
            pricesTold |= 1 << row;
            tokens.read();
            if (!tokens.takeNumber(0, House.NUMBER_MOST)) {
                return false;
            }
            house.price[row] = tokens.taken;
            return true;
        }

        private boolean readLeaves() {
            tokens.read();
            if (!tokens.isNumberWithin(0, house.rows - 1)) {
                return false;
            }
            int row = tokens.value;
            if (house.leaves[row] != NONE) {
                return tokens.fail(3);
            }
            tokens.read();
            if (!tokens.takeNumber(0, LAST_MOMENT)) {
                return false;
            }
            house.leaves[row] = tokens.taken;
            return true;
        }

        private boolean readCarry() {
            if (carryTold) {
                return tokens.fail(3);
            }
            carryTold = true;
            tokens.read();
            if (!tokens.takeNumber(1, CELLS)) {
                return false;
            }
            house.carry = tokens.taken;
            return true;
        }

        private boolean readPaid() {
            if (paidTold) {
                return tokens.fail(3);
            }
            paidTold = true;
            tokens.read();
            if (!tokens.takeNumber(0, LAST_MOMENT)) {
                return false;
            }
            house.paidUntil = tokens.taken;
            return true;
        }

        private boolean readRowByRow() {
            if (house.rowByRow) {
                return tokens.fail(3);
            }
            house.rowByRow = true;
            tokens.read();
            return true;
        }
    }

    /** Reads CUES for a house into another evening, so that a FAULT leaves the old ones. */
    private static final class CueText {
        final Tokens tokens;
        final House house;
        final Evening target;

        CueText(Tokens tokens, House house, Evening target) {
            this.tokens = tokens;
            this.house = house;
            this.target = target;
        }

        void readCues() {
            target.cueCount = 0;
            int tried = 0;
            while (tried < CUE_BYTES && tokens.kind != Tokens.END && readCue()) {
                tried++;
            }
        }

        private boolean readCue() {
            int i = target.cueCount;
            if (tokens.among(AT_WORD) == NONE) {
                return tokens.fail(1);
            }
            if (i >= CUES) {
                return tokens.fail(4);
            }
            tokens.read();
            int least = i > 0 ? target.cueMoment[i - 1] : 0;
            if (!tokens.takeNumber(least, LAST_MOMENT)) {
                return false;
            }
            target.cueMoment[i] = tokens.taken;
            int deed = tokens.among(CUE_WORDS);
            if (deed == NONE) {
                return tokens.fail(1);
            }
            target.cueDeed[i] = deed;
            target.cueSeat[i] = NONE;
            tokens.read();
            if (deed != STILL && !readSeat(i)) {
                return false;
            }
            target.cueCount = i + 1;
            return tokens.pass(';');
        }

        private boolean readSeat(int i) {
            if (!tokens.takeNumber(0, house.rows - 1)) {
                return false;
            }
            int row = tokens.taken;
            if (!tokens.isNumberWithin(0, house.columns - 1)) {
                return false;
            }
            int s = row * house.columns + tokens.value;
            if (!house.isSeat(s)) {
                return tokens.fail(2);
            }
            target.cueSeat[i] = s;
            tokens.read();
            return true;
        }
    }

    /** A HOUSE: sets of SEATS are longs, a bit a SEAT; a law's ONES are ints in a row. */
    private static final class House {
        /** Where in a ONE's int its parts stand; the NUMBER is lowest. */
        static final int NUMBER_MOST = 999;
        static final int NUMBER_MASK = 1023;
        static final int SIGN_SHIFT = 10;
        static final int LEVEL_SHIFT = 12;
        static final int WHAT_SHIFT = 14;
        static final int JOIN_SHIFT = 18;
        static final int SIZE_SHIFT = 19;

        static final int USUAL_PRICE = 10;

        int rows;
        int columns;
        int carry;
        int paidUntil;
        boolean rowByRow;
        long seats;
        final int[] kinds = new int[CELLS];
        final long[] ofKind = new long[KINDS];
        final int[] price = new int[SIDE];
        final int[] leaves = new int[SIDE];
        final int[] told = new int[LAWS];
        final int[] ones = new int[LAWS * ONES];
        final long[] areas = new long[AREAS * CELLS];

        House() {
            clear();
        }

        void clear() {
            rows = 0;
            columns = 0;
            carry = 1;
            paidUntil = LAST_MOMENT;
            rowByRow = false;
            seats = 0L;
            Arrays.fill(ofKind, 0L);
            Arrays.fill(price, USUAL_PRICE);
            Arrays.fill(leaves, NONE);
            Arrays.fill(told, NONE);
        }

        void takeAll(House other) {
            rows = other.rows;
            columns = other.columns;
            carry = other.carry;
            paidUntil = other.paidUntil;
            rowByRow = other.rowByRow;
            seats = other.seats;
            System.arraycopy(other.kinds, 0, kinds, 0, CELLS);
            System.arraycopy(other.ofKind, 0, ofKind, 0, KINDS);
            System.arraycopy(other.price, 0, price, 0, SIDE);
            System.arraycopy(other.leaves, 0, leaves, 0, SIDE);
            System.arraycopy(other.told, 0, told, 0, LAWS);
            System.arraycopy(other.ones, 0, ones, 0, LAWS * ONES);
            System.arraycopy(other.areas, 0, areas, 0, AREAS * CELLS);
        }

        int cells() {
            return rows * columns;
        }

        boolean isSeat(int s) {
            return s >= 0 && s < CELLS && (seats >>> s & 1L) != 0;
        }

        int rowOf(int s) {
            return columns > 0 && s >= 0 && s < cells() ? s / columns : 0;
        }

        int priceOf(int s) {
            return price[rowOf(s)];
        }

        int leavesOf(int s) {
            return leaves[rowOf(s)];
        }

        long rowSet(int row) {
            return (1L << columns) - 1L << row * columns;
        }

        /** Where nobody leaves any more; NONE: nobody ever does. */
        int lastLeaves() {
            int last = NONE;
            for (int r = 0; r < rows; r++) {
                last = Math.max(last, leaves[r]);
            }
            return last;
        }

        void exchangeKinds(int a, int b) {
            int kindOfA = kinds[a];
            setKind(a, kinds[b]);
            setKind(b, kindOfA);
        }

        private void setKind(int s, int kind) {
            for (int k = 0; k < KINDS; k++) {
                ofKind[k] = withBit(ofKind[k], s, k == kind ? 1 : 0);
            }
            kinds[s] = kind;
        }

        /** Makes the sets of SEATS out of the rows that were read. */
        void survey() {
            seats = 0L;
            for (int s = 0; s < cells() && s < CELLS; s++) {
                setKind(s, kinds[s]);
                seats |= kinds[s] == NONE ? 0L : 1L << s;
            }
            for (int s = 0; s < CELLS; s++) {
                if (isSeat(s)) {
                    surveyAreas(s);
                }
            }
        }

        private void surveyAreas(int s) {
            int r = rowOf(s);
            int c = s - r * columns;
            long self = 1L << s;
            long beside = span(r, c, 1) & ~self;
            long ahead = span(r - 1, c, 0);
            areas[s] = span(r - 1, c, 1) | beside | span(r + 1, c, 1);
            areas[CELLS + s] = ahead;
            areas[2 * CELLS + s] = beside;
            areas[3 * CELLS + s] = span(r + 1, c, 0);
            long seen = span(r - 1, c, 1) | span(r - 2, c, 2) | span(r - 3, c, 3);
            areas[SEEN * CELLS + s] = ahead == 0L ? 0L : seen;
            areas[5 * CELLS + s] = seats & ~self;
        }

        /** The SEATS of a row so many columns away at most. */
        private long span(int row, int column, int away) {
            if (row < 0 || row >= rows) {
                return 0L;
            }
            long set = 0L;
            int last = Math.min(columns - 1, column + away);
            for (int c = Math.max(0, column - away); c <= last; c++) {
                set |= 1L << row * columns + c;
            }
            return set & seats;
        }
    }

    /** A HOUSE with who is PAID, who HISSES, and the CUES: what an image keeps. */
    private static final class Evening {
        final House house = new House();
        final int[] cueMoment = new int[CUES];
        final int[] cueDeed = new int[CUES];
        final int[] cueSeat = new int[CUES];
        int cueCount;
        long paid;
        long hissing;

        void clear() {
            house.clear();
            cueCount = 0;
            paid = 0L;
            hissing = 0L;
        }

        void takeAll(Evening other) {
            house.takeAll(other.house);
            takeCues(other);
            paid = other.paid;
            hissing = other.hissing;
        }

        void takeCues(Evening other) {
            cueCount = other.cueCount;
            System.arraycopy(other.cueMoment, 0, cueMoment, 0, CUES);
            System.arraycopy(other.cueDeed, 0, cueDeed, 0, CUES);
            System.arraycopy(other.cueSeat, 0, cueSeat, 0, CUES);
        }

        /** The moment of the last 'leaves' or CUE; NONE without. */
        int lastEvent() {
            int lastCue = cueCount > 0 && cueCount <= CUES ? cueMoment[cueCount - 1] : NONE;
            return Math.max(house.lastLeaves(), lastCue);
        }

        /** The first moment of which AGAIN speaks. */
        int againFrom() {
            int from = Math.max(0, lastEvent());
            if (house.paidUntil < LAST_MOMENT && isSomebodyPaid()) {
                from = Math.max(from, house.paidUntil + 1);
            }
            return from;
        }

        private boolean isSomebodyPaid() {
            boolean is = paid != 0L;
            for (int i = 0; i < cueCount && i < CUES; i++) {
                is = is || cueDeed[i] == PAY;
            }
            return is;
        }
    }

    /** A NIGHT in one moment after another: the LEVELS and HELD of all as sets of SEATS. */
    private static final class Night {
        final Evening evening;
        final House house;
        int moment;
        int nextCue;
        int lastEvent;
        long paid;
        long hissing;
        long left;
        long claps;
        long stands;
        long heldLow;
        long heldHigh;
        /** No later moment will be unlike this one. */
        boolean calm;

        Night(Evening evening) {
            this.evening = evening;
            this.house = evening.house;
        }

        /** Takes the people of a kept moment, to ask what they would do. */
        void beAs(Diary diary, int m) {
            claps = diary.claps[m];
            stands = diary.stands[m];
            heldLow = diary.heldLow[m];
            heldHigh = diary.heldHigh[m];
        }

        boolean doesHold(int law, int s) {
            return joined(law * ONES, house.told[law], 1L << s, 1) != 0L;
        }

        void begin(long paidOnes, long hissingOnes) {
            paid = paidOnes;
            hissing = hissingOnes;
            moment = 0;
            nextCue = 0;
            left = 0L;
            calm = false;
            lastEvent = evening.lastEvent();
            if (house.paidUntil < LAST_MOMENT) {
                lastEvent = Math.max(lastEvent, house.paidUntil);
            }
            doCues();
            seeRowsOff();
            claps = standing();
            stands = claps;
            heldLow = 0L;
            heldHigh = 0L;
        }

        void goTo(int t) {
            for (int i = moment; i < t && !calm; i++) {
                step();
            }
        }

        /** HEIGHT, or the first number of those who stand that is enough. */
        int heightOf(long paidOnes, long hissingOnes, int enough) {
            begin(paidOnes, hissingOnes);
            int most = Long.bitCount(stands);
            for (int t = 1; t <= JUDGED_MOMENT && most < enough && !calm; t++) {
                step();
                most = Math.max(most, Long.bitCount(stands));
            }
            return most;
        }

        void step() {
            moment++;
            boolean still = doCues();
            seeRowsOff();
            long standing = standing();
            long bound = still ? house.seats : standing | hissing | left;
            long oldClaps = claps;
            long oldStands = stands;
            if (house.rowByRow) {
                for (int r = 0; r < house.rows; r++) {
                    move(house.rowSet(r), standing, bound);
                }
            } else {
                move(house.seats, standing, bound);
            }
            hold(house.seats & ~(claps ^ oldClaps) & ~(stands ^ oldStands));
        }

        /** Whether all are told to be still in this moment. */
        private boolean doCues() {
            boolean still = false;
            while (nextCue < evening.cueCount && nextCue < CUES && evening.cueMoment[nextCue] <= moment) {
                int deed = evening.cueDeed[nextCue];
                if (deed == STILL) {
                    still = true;
                } else {
                    int s = evening.cueSeat[nextCue];
                    paid = withBit(paid, s, deed == PAY ? 1 : 0);
                    hissing = withBit(hissing, s, deed == HISS ? 1 : 0);
                }
                nextCue++;
            }
            return still;
        }

        private void seeRowsOff() {
            for (int r = 0; r < house.rows; r++) {
                if (house.leaves[r] == moment) {
                    left |= house.rowSet(r);
                }
            }
        }

        private long standing() {
            return moment <= house.paidUntil ? paid & ~hissing & ~left : 0L;
        }

        /** These rows come to this moment, the others stay: so the rows behind perceive it. */
        private void move(long these, long standing, long bound) {
            long free = these & ~bound & house.seats;
            long up = 0L;
            long down = 0L;
            for (int k = 0; k < KINDS; k++) {
                long who = free & house.ofKind[k];
                if (who != 0L) {
                    int law = 2 * k;
                    long rise = joined(law * ONES, house.told[law], who, 1);
                    law++;
                    up |= rise;
                    down |= joined(law * ONES, house.told[law], who & ~rise & claps, 1);
                }
            }
            long nextClaps = (claps | up) & ~(down & ~stands);
            long nextStands = (stands | up & claps) & ~down;
            claps = claps & ~these | nextClaps & free | standing & these;
            stands = stands & ~these | nextStands & free | standing & these;
        }

        /** HELD of these grows up to 3, that of all others begins again. */
        private void hold(long these) {
            long low = (~heldLow | heldHigh) & these;
            long high = (heldHigh | heldLow) & these;
            boolean alike = these == house.seats && low == heldLow && high == heldHigh;
            calm = alike && moment > lastEvent;
            heldLow = low;
            heldHigh = high;
        }

        /** Those of some SEATS for whom these ONES hold as they are joined; none, if there are no ONES. */
        private long joined(int first, int size, long who, int depth) {
            if (who == 0L || size <= 0 || depth > WITHIN) {
                return 0L;
            }
            long any = 0L;
            long all = who;
            int i = first;
            for (int tried = 0; tried < ONES && i < first + size && i < house.ones.length; tried++) {
                if ((house.ones[i] >>> House.JOIN_SHIFT & 1) != 0) {
                    any |= all;
                    all = who & ~any;
                }
                all = holding(i, all, depth);
                i += house.ones[i] >>> House.SIZE_SHIFT;
            }
            return any | all;
        }

        /** Those of some SEATS for whom one ONE holds. */
        private long holding(int i, long who, int depth) {
            if (who == 0L || depth > WITHIN || i < 0 || i >= house.ones.length) {
                return 0L;
            }
            int one = house.ones[i];
            int what = one >>> House.WHAT_SHIFT & 15;
            if (what == NOT) {
                return who & ~holding(i + 1, who, depth + 1);
            }
            if (what == GROUP) {
                return joined(i + 1, (one >>> House.SIZE_SHIFT) - 1, who, depth + 1);
            }
            int number = one & House.NUMBER_MASK;
            int sign = one >>> House.SIGN_SHIFT & 3;
            int least = sign == 0 ? 0 : number + sign - 1;
            int most = sign == 0 ? number - 1 : sign == 1 ? number : House.NUMBER_MASK;
            if (what == SELF) {
                return who & levelWithin(least, most);
            }
            if (what == HELD) {
                return who & heldWithin(least, most);
            }
            long level = (one >>> House.LEVEL_SHIFT & 3) == 1 ? claps : stands;
            long holds = 0L;
            long rest = who;
            for (int s = 0; s < CELLS && what < AREAS && rest != 0L; s++) {
                if ((rest & 1L) != 0L) {
                    int many = Long.bitCount(house.areas[what * CELLS + s] & level);
                    if (many >= least && many <= most) {
                        holds |= 1L << s;
                    }
                }
                rest >>>= 1;
            }
            return holds;
        }

        private long levelWithin(int least, int most) {
            long set = least <= 0 && most >= 0 ? ~claps : 0L;
            set |= least <= 1 && most >= 1 ? claps & ~stands : 0L;
            set |= least <= 2 && most >= 2 ? stands : 0L;
            return set;
        }

        private long heldWithin(int least, int most) {
            long set = least <= 0 && most >= 0 ? ~heldHigh & ~heldLow : 0L;
            set |= least <= 1 && most >= 1 ? ~heldHigh & heldLow : 0L;
            set |= least <= 2 && most >= 2 ? heldHigh & ~heldLow : 0L;
            set |= least <= 3 && most >= 3 ? heldHigh & heldLow : 0L;
            return set;
        }
    }

    /** The NIGHT as it is now, its moments kept as far as they were asked for. */
    private static final class Diary {
        final Evening evening;
        final Night night;
        final long[] claps = new long[LAST_MOMENT + 1];
        final long[] stands = new long[LAST_MOMENT + 1];
        final long[] heldLow = new long[LAST_MOMENT + 1];
        final long[] heldHigh = new long[LAST_MOMENT + 1];
        int known;

        Diary(Evening evening) {
            this.evening = evening;
            night = new Night(evening);
        }

        void forget() {
            known = 0;
        }

        /** Where moment t is kept: ahead of t, if nothing changes from there on. */
        int reach(int t) {
            if (known == 0) {
                night.begin(evening.paid, evening.hissing);
                keep();
            }
            for (int i = known; i <= t && i <= LAST_MOMENT && !night.calm; i++) {
                night.step();
                keep();
            }
            return Math.max(0, Math.min(t, known - 1));
        }

        private void keep() {
            if (known <= LAST_MOMENT) {
                claps[known] = night.claps;
                stands[known] = night.stands;
                heldLow[known] = night.heldLow;
                heldHigh[known] = night.heldHigh;
                known++;
            }
        }

        boolean isUp(int m) {
            return m >= 0 && m < known && Long.bitCount(stands[m]) >= evening.house.carry;
        }

        int height() {
            int most = 0;
            for (int t = 0; t <= JUDGED_MOMENT; t++) {
                most = Math.max(most, Long.bitCount(stands[reach(t)]));
            }
            return most;
        }

        /** The first moment behind t that is like it; NONE: there is none. */
        int likeBehind(int t) {
            int a = reach(t);
            for (int later = t + 1; later <= LAST_MOMENT; later++) {
                int b = reach(later);
                if (areAlike(a, b)) {
                    return later;
                }
                if (b < later) {
                    return NONE;
                }
            }
            return NONE;
        }

        private boolean areAlike(int a, int b) {
            return claps[a] == claps[b] && stands[a] == stands[b]
                    && heldLow[a] == heldLow[b] && heldHigh[a] == heldHigh[b];
        }
    }

    /** Nights that are tried with other hands or KINDS, and what these trials told last. */
    private static final class Trials {
        final Evening evening;
        final int[] bytes;
        final Night night;
        final Night other;
        final int[] heights = new int[1 << HANDS];
        final int[] found = new int[1 << HANDS];
        final int[] adds = new int[HANDS];
        int hands;
        int bought = NONE;
        int secondSure = NONE;
        int firstSeat = NONE;
        int secondSeat = NONE;
        int beganFirst = NONE;
        int beganSecond = NONE;
        long sketched;
        long sketchClaps;
        long sketchStands;

        Trials(Evening evening, Tape tape) {
            this.evening = evening;
            bytes = tape.bytes;
            night = new Night(evening);
            other = new Night(evening);
        }

        boolean areHands(int n) {
            return n >= 1 && n <= HANDS && areUnlikeSeats(0, n);
        }

        boolean areUnlikeSeats(int from, int to) {
            long seen = 0L;
            for (int i = from; i < to; i++) {
                if (!evening.house.isSeat(bytes[i]) || bitOf(seen, bytes[i]) == 1) {
                    return false;
                }
                seen |= 1L << bytes[i];
            }
            return true;
        }

        /** The SEATS that a set of the tape's first n places names. */
        private long seatsOf(int set, int n) {
            long seats = 0L;
            for (int i = 0; i < n; i++) {
                if ((set >>> i & 1) != 0) {
                    seats |= 1L << bytes[i];
                }
            }
            return seats;
        }

        /** The prices of the set's own SEATS, also of those that are PAID already. */
        private int priceOfSet(int set, int n) {
            int price = 0;
            for (int i = 0; i < n; i++) {
                if ((set >>> i & 1) != 0) {
                    price += evening.house.priceOf(bytes[i]);
                }
            }
            return price;
        }

        int cheapestOf(int n) {
            int carry = evening.house.carry;
            int best = NONE;
            int bestPrice = NONE;
            for (int set = 0; set < 1 << n; set++) {
                long paid = evening.paid | seatsOf(set, n);
                int price = priceOfSet(set, n);
                boolean better = best == NONE || price < bestPrice
                        || price == bestPrice && Integer.bitCount(set) < Integer.bitCount(best);
                if (better && night.heightOf(paid, evening.hissing, carry) >= carry) {
                    best = set;
                    bestPrice = price;
                }
            }
            if (best != NONE) {
                bought = best;
            }
            return bestPrice;
        }

        int hushOf(int n) {
            int carry = evening.house.carry;
            int best = NONE;
            for (int set = 0; set < 1 << n; set++) {
                boolean better = best == NONE || Integer.bitCount(set) < Integer.bitCount(best);
                long hissing = evening.hissing | seatsOf(set, n);
                if (better && night.heightOf(evening.paid, hissing, carry) < carry) {
                    best = set;
                }
            }
            return best;
        }

        /** How many were found: a set's parts are lesser numbers, so they are found ahead of it. */
        int coalitionsOf(int n) {
            int carry = evening.house.carry;
            int many = 0;
            for (int set = 0; set < 1 << n; set++) {
                if (!hasFoundPart(set, many)) {
                    long paid = evening.paid | seatsOf(set, n);
                    if (night.heightOf(paid, evening.hissing, carry) >= carry) {
                        found[many] = set;
                        many++;
                    }
                }
            }
            return many;
        }

        private boolean hasFoundPart(int set, int many) {
            for (int i = 0; i < many; i++) {
                if ((found[i] & ~set) == 0) {
                    return true;
                }
            }
            return false;
        }

        int worthOfAll(int n) {
            int sets = 1 << n;
            for (int set = 0; set < sets; set++) {
                heights[set] = night.heightOf(seatsOf(set, n), evening.hissing, CELLS);
            }
            for (int i = 0; i < n; i++) {
                adds[i] = addsOf(i, n);
            }
            hands = n;
            return heights[sets - 1];
        }

        /** A hand comes behind each set of others in as many orders as these and the rest have. */
        private int addsOf(int i, int n) {
            int sum = 0;
            for (int set = 0; set < 1 << n; set++) {
                if ((set >>> i & 1) == 0) {
                    int ahead = Integer.bitCount(set);
                    int orders = factorial(ahead) * factorial(n - 1 - ahead);
                    sum += orders * (heights[set | 1 << i] - heights[set]);
                }
            }
            return sum;
        }

        int factorial(int n) {
            int product = 1;
            for (int i = 2; i <= n && i <= HANDS; i++) {
                product *= i;
            }
            return product;
        }

        int commonDivisor(int a, int b) {
            int x = a;
            int y = b;
            for (int i = 0; i < CELLS && y > 0; i++) {
                int rest = x % y;
                x = y;
                y = rest;
            }
            return x;
        }

        /** The first side is the tape's bytes 1 to first, the second those up to n. */
        int sidesOf(int first, int n) {
            int sure = NONE;
            for (int i = 1; i <= first; i++) {
                int least = CELLS;
                for (int j = first + 1; j < n; j++) {
                    long paid = evening.paid | 1L << bytes[i];
                    long hissing = evening.hissing | 1L << bytes[j];
                    int height = night.heightOf(paid, hissing, CELLS);
                    heights[i * SIDE + j - first] = height;
                    least = Math.min(least, height);
                }
                if (least > sure) {
                    sure = least;
                    firstSeat = bytes[i];
                }
            }
            secondSure = CELLS + 1;
            for (int j = first + 1; j < n; j++) {
                int most = NONE;
                for (int i = 1; i <= first; i++) {
                    most = Math.max(most, heights[i * SIDE + j - first]);
                }
                if (most < secondSure) {
                    secondSure = most;
                    secondSeat = bytes[j];
                }
            }
            return sure;
        }

        boolean readSketch(int n) {
            sketched = 0L;
            sketchClaps = 0L;
            sketchStands = 0L;
            for (int s = 0; s < n && s < CELLS; s++) {
                if (evening.house.isSeat(s)) {
                    if (bytes[s] > 3) {
                        return false;
                    }
                    sketched = withBit(sketched, s, bytes[s] < 3 ? 1 : 0);
                    sketchClaps = withBit(sketchClaps, s, bytes[s] == 1 || bytes[s] == 2 ? 1 : 0);
                    sketchStands = withBit(sketchStands, s, bytes[s] == 2 ? 1 : 0);
                }
            }
            return true;
        }

        int beganBy(int t) {
            int many = 0;
            beganFirst = NONE;
            beganSecond = NONE;
            for (int a = 0; a < CELLS; a++) {
                for (int b = a; b < CELLS && evening.house.isSeat(a); b++) {
                    if (evening.house.isSeat(b)) {
                        night.begin(1L << a | 1L << b, evening.hissing);
                        night.goTo(t);
                        if (isAsSketched()) {
                            beganFirst = many == 0 ? a : beganFirst;
                            beganSecond = many == 0 && b != a ? b : beganSecond;
                            many++;
                        }
                    }
                }
            }
            return many;
        }

        private boolean isAsSketched() {
            return (night.claps & sketched) == sketchClaps && (night.stands & sketched) == sketchStands;
        }

        int partOf(long paidHere, long paidThere) {
            night.begin(paidHere, evening.hissing);
            other.begin(paidThere, evening.hissing);
            for (int t = 0; t <= JUDGED_MOMENT; t++) {
                night.goTo(t);
                other.goTo(t);
                if (night.claps != other.claps || night.stands != other.stands) {
                    return t;
                }
            }
            return NONE;
        }

        /** The first two SEATS that, exchanged, bring HEIGHT above a number: first * CELLS + second. */
        int firstPairAbove(int height) {
            House house = evening.house;
            for (int a = 0; a < CELLS; a++) {
                for (int b = a + 1; b < CELLS && house.isSeat(a); b++) {
                    if (house.isSeat(b) && house.kinds[a] != house.kinds[b]) {
                        house.exchangeKinds(a, b);
                        int then = night.heightOf(evening.paid, evening.hissing, height + 1);
                        house.exchangeKinds(a, b);
                        if (then > height) {
                            return a * CELLS + b;
                        }
                    }
                }
            }
            return NONE;
        }
    }
}
