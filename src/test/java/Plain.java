import java.util.ArrayList;
import java.util.Arrays;
import java.util.List;
import java.util.NoSuchElementException;

/**
 * The document once more, written as plainly as can be and apart from HouseClaps: a seat at a time,
 * every night played anew and to its end. PlainTest holds the class against it.
 */
public final class Plain {
    private static final int NONE = -1;
    private static final String[] AREAS = {"near", "ahead", "beside", "behind", "seen", "house"};

    private static final class Fault extends RuntimeException {
        private static final long serialVersionUID = 1L;
        final int kind;
        final int place;

        Fault(int kind, int place) {
            this.kind = kind;
            this.place = place;
        }
    }

    private interface Cond {
        boolean holds(int[] levels, int[] held, int seat);
    }

    private record Cue(int moment, int deed, int seat) { }

    private static final class State {
        List<String> rows = new ArrayList<>();
        char[] cells = new char[0];
        Cond[] laws = new Cond[12];
        int[] ones = new int[12];
        int[] price = new int[8];
        int[] leaves = new int[8];
        int carry = 1;
        int until = 600;
        boolean byRows;
        boolean[] paid = new boolean[0];
        boolean[] hissing = new boolean[0];
        List<Cue> cues = new ArrayList<>();

        State() {
            Arrays.fill(ones, NONE);
            Arrays.fill(price, 10);
            Arrays.fill(leaves, NONE);
        }

        State copy() {
            State c = new State();
            c.rows = rows;
            c.cells = cells.clone();
            c.laws = laws;
            c.ones = ones;
            c.price = price;
            c.leaves = leaves;
            c.carry = carry;
            c.until = until;
            c.byRows = byRows;
            c.paid = paid.clone();
            c.hissing = hissing.clone();
            c.cues = cues;
            return c;
        }
    }

    private List<Integer> tape = new ArrayList<>();
    private State now = new State();
    private final State[] images = new State[2];
    private int fault;
    private int bought = NONE;
    private long[] worths = new long[0];
    private long orders = 1;
    private int[] sides = {NONE, NONE, NONE};
    private int[] began = {NONE, NONE};
    private int arranged;

    // ---- the text

    private String text;
    private int limit;
    private int stop;
    private int place;
    private String token;
    private int onesRead;
    private State reading;

    private void next() {
        while (stop < text.length() && " \n".indexOf(text.charAt(stop)) >= 0) {
            stop++;
        }
        place = stop;
        if (stop >= Math.min(text.length(), limit)) {
            if (text.length() > limit) {
                throw new Fault(1, limit);
            }
            place = text.length();
            token = "";
            return;
        }
        int from = stop;
        while (stop < text.length() && String.valueOf(text.charAt(stop)).matches("[a-z0-9]")) {
            stop++;
        }
        if (stop == from) {
            stop++;
        }
        token = text.substring(from, stop);
        if (!token.matches("[a-z]{1,8}|[0-9]{1,3}|[;<=>()]")) {
            throw new Fault(1, place);
        }
    }

    private void expect(String what) {
        if (!token.equals(what)) {
            throw new Fault(1, place);
        }
        next();
    }

    private int number(int least, int most) {
        if (!token.matches("[0-9]+")) {
            throw new Fault(1, place);
        }
        int n = Integer.parseInt(token);
        if (n < least || n > most) {
            throw new Fault(2, place);
        }
        return n;
    }

    private int numberAndNext(int least, int most) {
        int n = number(least, most);
        next();
        return n;
    }

    private String word() {
        if (!token.matches("[a-z]+")) {
            throw new Fault(1, place);
        }
        return token;
    }

    private String take() {
        StringBuilder all = new StringBuilder();
        for (int b : tape) {
            all.append((char) b);
        }
        tape = new ArrayList<>();
        return all.toString();
    }

    private int rowTold(List<Integer> told) {
        int row = number(0, reading.rows.size() - 1);
        if (told.contains(row)) {
            throw new Fault(3, place);
        }
        told.add(row);
        next();
        return row;
    }

    private void once(List<String> told) {
        if (told.contains(token)) {
            throw new Fault(3, place);
        }
        told.add(token);
    }

    private int readHouse() {
        int lines = 0;
        List<Integer> prices = new ArrayList<>();
        List<Integer> leaving = new ArrayList<>();
        List<String> told = new ArrayList<>();
        next();
        while (!token.isEmpty()) {
            switch (token) {
                case "row" -> readRow();
                case "up" -> readLaw(0);
                case "down" -> readLaw(1);
                case "price" -> {
                    next();
                    int row = rowTold(prices);
                    reading.price[row] = numberAndNext(0, 999);
                }
                case "leaves" -> {
                    next();
                    int row = rowTold(leaving);
                    reading.leaves[row] = numberAndNext(0, 600);
                }
                case "carry" -> {
                    once(told);
                    next();
                    reading.carry = numberAndNext(1, 64);
                }
                case "paid" -> {
                    once(told);
                    next();
                    reading.until = numberAndNext(0, 600);
                }
                case "rows" -> {
                    once(told);
                    next();
                    reading.byRows = true;
                }
                default -> throw new Fault(1, place);
            }
            expect(";");
            lines++;
        }
        return lines;
    }

    private void readRow() {
        if (reading.rows.size() == 8) {
            throw new Fault(4, place);
        }
        next();
        String row = word();
        if (!row.matches("[a-fx]+") || !reading.rows.isEmpty() && row.length() != reading.rows.get(0).length()) {
            throw new Fault(2, place);
        }
        reading.rows.add(row);
        next();
    }

    private void readLaw(int what) {
        next();
        if (!word().matches("[a-f]")) {
            throw new Fault(2, place);
        }
        int law = 2 * (token.charAt(0) - 'a') + what;
        if (reading.ones[law] != NONE) {
            throw new Fault(3, place);
        }
        next();
        onesRead = 0;
        Cond cond = readCond(1);
        reading.laws[law] = cond;
        reading.ones[law] = onesRead;
    }

    private Cond readCond(int depth) {
        Cond any = readAll(depth);
        while (token.equals("or")) {
            next();
            Cond left = any;
            Cond right = readAll(depth);
            any = (l, h, s) -> left.holds(l, h, s) || right.holds(l, h, s);
        }
        return any;
    }

    private Cond readAll(int depth) {
        Cond all = readOne(depth);
        while (token.equals("and")) {
            next();
            Cond left = all;
            Cond right = readOne(depth);
            all = (l, h, s) -> left.holds(l, h, s) && right.holds(l, h, s);
        }
        return all;
    }

    private Cond readOne(int depth) {
        int area = Arrays.asList(AREAS).indexOf(token);
        if (area < 0 && !List.of("self", "held", "not", "(").contains(token)) {
            throw new Fault(1, place);
        }
        onesRead++;
        if (onesRead > 20 || depth > 8) {
            throw new Fault(4, place);
        }
        String first = token;
        next();
        if (first.equals("not")) {
            Cond inner = readOne(depth + 1);
            return (l, h, s) -> !inner.holds(l, h, s);
        }
        if (first.equals("(")) {
            Cond inner = readCond(depth + 1);
            expect(")");
            return inner;
        }
        int level = area < 0 ? 0 : numberAndNext(1, 2);
        String sign = token;
        if (!List.of("<", "=", ">").contains(sign)) {
            throw new Fault(1, place);
        }
        next();
        int n = numberAndNext(0, 999);
        return (l, h, s) -> {
            int is = area >= 0 ? perceived(l, s, area, level) : first.equals("self") ? l[s] : h[s];
            return sign.equals("<") ? is < n : sign.equals("=") ? is == n : is > n;
        };
    }

    private void readCues(List<Cue> cues) {
        next();
        int before = 0;
        while (!token.isEmpty()) {
            if (!token.equals("at")) {
                throw new Fault(1, place);
            }
            if (cues.size() == 30) {
                throw new Fault(4, place);
            }
            next();
            before = numberAndNext(before, 600);
            int deed = List.of("pay", "hiss", "free", "still").indexOf(token);
            if (deed < 0) {
                throw new Fault(1, place);
            }
            next();
            int seat = NONE;
            if (deed < 3) {
                int row = numberAndNext(0, now.rows.size() - 1);
                int column = number(0, columns() - 1);
                seat = row * columns() + column;
                if (!isSeat(seat)) {
                    throw new Fault(2, place);
                }
                next();
            }
            expect(";");
            cues.add(new Cue(before, deed, seat));
        }
    }

    // ---- the night

    private int columns() {
        return now.rows.isEmpty() ? 0 : now.rows.get(0).length();
    }

    private boolean isSeat(int s) {
        return s >= 0 && s < now.cells.length && now.cells[s] != 'x';
    }

    private List<Integer> seats() {
        List<Integer> all = new ArrayList<>();
        for (int s = 0; s < now.cells.length; s++) {
            if (isSeat(s)) {
                all.add(s);
            }
        }
        return all;
    }

    private boolean isIn(int s, int t, int area) {
        int dr = t / columns() - s / columns();
        int dc = Math.abs(t % columns() - s % columns());
        return switch (area) {
            case 0 -> s != t && Math.abs(dr) <= 1 && dc <= 1;
            case 1 -> dr == -1 && dc == 0;
            case 2 -> dr == 0 && dc == 1;
            case 3 -> dr == 1 && dc == 0;
            case 4 -> dr <= -1 && dr >= -3 && dc <= -dr && isSeat(s - columns());
            default -> s != t;
        };
    }

    private int perceived(int[] levels, int s, int area, int level) {
        int many = 0;
        for (int t : seats()) {
            if (isIn(s, t, area) && levels[t] >= level) {
                many++;
            }
        }
        return many;
    }

    /** Levels in [0], held in [1], of the moments 0 to last. */
    private int[][][] play(boolean[] paidFirst, boolean[] hissFirst, int last) {
        int size = now.cells.length;
        int[][][] night = new int[2][last + 1][size];
        boolean[] paid = paidFirst.clone();
        boolean[] hissing = hissFirst.clone();
        for (int t = 0; t <= last; t++) {
            boolean still = false;
            for (Cue cue : now.cues) {
                if (cue.moment == t && cue.deed == 3) {
                    still = true;
                } else if (cue.moment == t) {
                    paid[cue.seat] = cue.deed == 0;
                    hissing[cue.seat] = cue.deed == 1;
                }
            }
            int[] before = t == 0 ? new int[size] : night[0][t - 1].clone();
            int[] perceived = before.clone();
            int rowDone = 0;
            for (int s : seats()) {
                int row = s / columns();
                if (now.byRows && row > rowDone) {
                    for (int other = 0; other < row * columns(); other++) {
                        perceived[other] = night[0][t][other];
                    }
                    rowDone = row;
                }
                int level = before[s];
                if (t > 0) {
                    int law = 2 * (now.cells[s] - 'a');
                    int[] held = night[1][t - 1];
                    if (now.laws[law] != null && now.laws[law].holds(perceived, held, s)) {
                        level = Math.min(2, level + 1);
                    } else if (now.laws[law + 1] != null && now.laws[law + 1].holds(perceived, held, s)) {
                        level = Math.max(0, level - 1);
                    }
                }
                boolean left = now.leaves[row] != NONE && t >= now.leaves[row];
                if (left || hissing[s]) {
                    level = 0;
                } else if (paid[s] && t <= now.until) {
                    level = 2;
                } else if (still) {
                    level = 0;
                }
                night[0][t][s] = level;
                night[1][t][s] = t == 0 || level != before[s] ? 0 : Math.min(3, night[1][t - 1][s] + 1);
            }
        }
        return night;
    }

    private int[][][] play(int last) {
        return play(now.paid, now.hissing, last);
    }

    private int standing(int[] levels) {
        int many = 0;
        for (int s : seats()) {
            many += levels[s] == 2 ? 1 : 0;
        }
        return many;
    }

    private int height(boolean[] paid, boolean[] hissing) {
        int[][][] night = play(paid, hissing, 60);
        int most = 0;
        for (int t = 0; t <= 60; t++) {
            most = Math.max(most, standing(night[0][t]));
        }
        return most;
    }

    private boolean carrying(boolean[] paid, boolean[] hissing) {
        return height(paid, hissing) >= now.carry;
    }

    private boolean[] with(boolean[] flags, List<Integer> seats, int set) {
        boolean[] more = flags.clone();
        for (int i = 0; i < seats.size(); i++) {
            if ((set >> i & 1) != 0) {
                more[seats.get(i)] = true;
            }
        }
        return more;
    }

    private boolean[] nobody() {
        return new boolean[now.cells.length];
    }

    private boolean[] only(int... seats) {
        boolean[] flags = nobody();
        for (int s : seats) {
            flags[s] = true;
        }
        return flags;
    }

    private int sum(boolean[] flags) {
        int n = 0;
        for (boolean flag : flags) {
            n += flag ? 1 : 0;
        }
        return n;
    }

    // ---- the face

    public int feed(int a, int b, int c, int d, int e) {
        if (tape.size() + 20 > 940) {
            return NONE;
        }
        for (int n : new int[] {a, b, c, d, e}) {
            for (byte each : java.nio.ByteBuffer.allocate(4).putInt(n).array()) {
                tape.add(each & 255);
            }
        }
        return tape.size();
    }

    public boolean end(int n) {
        if (n < 0 || n > tape.size()) {
            return false;
        }
        tape = new ArrayList<>(tape.subList(0, n));
        return true;
    }

    public int house() {
        text = take();
        limit = 900;
        stop = 0;
        reading = new State();
        fault = 0;
        try {
            int lines = readHouse();
            reading.cells = String.join("", reading.rows).toCharArray();
            reading.paid = new boolean[reading.cells.length];
            reading.hissing = new boolean[reading.cells.length];
            now = reading;
            return lines;
        } catch (Fault f) {
            fault = f.kind;
            return -1 - f.place;
        }
    }

    public int fault() {
        return fault;
    }

    public int seat(int s, int what) {
        if (!isSeat(s) || what < 0 || what > 4) {
            throw new NoSuchElementException();
        }
        int row = s / columns();
        int[] told = {now.cells[s] - 'a', now.price[row], now.leaves[row], now.paid[s] ? 1 : 0, now.hissing[s] ? 1 : 0};
        return told[what];
    }

    public int law(int kind, int what) {
        return kind < 0 || kind > 5 || what < 0 || what > 1 ? NONE : now.ones[2 * kind + what];
    }

    public boolean pay(int s, int is) {
        if (!isSeat(s) || is != 0 && is != 1) {
            return false;
        }
        now.paid[s] = is == 1;
        return true;
    }

    public boolean hiss(int s, int is) {
        if (!isSeat(s) || is != 0 && is != 1) {
            return false;
        }
        now.hissing[s] = is == 1;
        return true;
    }

    public int cues() {
        text = take();
        limit = 400;
        stop = 0;
        fault = 0;
        List<Cue> cues = new ArrayList<>();
        try {
            readCues(cues);
            now.cues = cues;
            return cues.size();
        } catch (Fault f) {
            fault = f.kind;
            return -1 - f.place;
        }
    }

    public int cue(int i, int what) {
        if (i < 0 || i >= now.cues.size() || what < 0 || what > 2) {
            throw new NoSuchElementException();
        }
        Cue cue = now.cues.get(i);
        return new int[] {cue.moment, cue.deed, cue.seat}[what];
    }

    private boolean isMoment(int t) {
        return t >= 0 && t <= 600;
    }

    public int sees(int s, int t, int area, int level) {
        if (!isSeat(s) || !isMoment(t) || area < 0 || area > 5 || level < 1 || level > 2) {
            return NONE;
        }
        return perceived(play(t)[0][t], s, area, level);
    }

    public int at(int s, int t, int what) {
        return !isSeat(s) || !isMoment(t) || what < 0 || what > 1 ? NONE : play(t)[what][t][s];
    }

    public int many(int t, int level) {
        if (!isMoment(t) || level < 0 || level > 2) {
            return NONE;
        }
        int[] levels = play(t)[0][t];
        int many = 0;
        for (int s : seats()) {
            many += levels[s] >= level ? 1 : 0;
        }
        return many;
    }

    public int would(int s, int t, int what) {
        if (!isSeat(s) || !isMoment(t) || what < 0 || what > 1) {
            return NONE;
        }
        Cond cond = now.laws[2 * (now.cells[s] - 'a') + what];
        int[][][] night = play(t);
        return cond == null ? NONE : cond.holds(night[0][t], night[1][t], s) ? 1 : 0;
    }

    public int stands(int s) {
        if (isSeat(s)) {
            int[][][] night = play(600);
            for (int t = 0; t <= 600; t++) {
                if (night[0][t][s] == 2) {
                    return t;
                }
            }
        }
        return NONE;
    }

    public int anyway(int t) {
        if (!isMoment(t)) {
            return NONE;
        }
        int[] here = play(t)[0][t];
        int[] there = play(nobody(), now.hissing, t)[0][t];
        int many = 0;
        for (int s : seats()) {
            many += here[s] == 2 && there[s] == 2 ? 1 : 0;
        }
        return many;
    }

    public int up() {
        int[][][] night = play(600);
        for (int t = 0; t <= 600; t++) {
            if (standing(night[0][t]) >= now.carry) {
                return t;
            }
        }
        return NONE;
    }

    public int calls(int t) {
        if (!isMoment(t)) {
            return NONE;
        }
        int[][][] night = play(t);
        int calls = 0;
        for (int m = 0; m <= t; m++) {
            boolean is = standing(night[0][m]) >= now.carry;
            boolean was = m > 0 && standing(night[0][m - 1]) >= now.carry;
            calls += is && !was ? 1 : 0;
        }
        return calls;
    }

    public int again(int what) {
        if (what < 0 || what > 1) {
            return NONE;
        }
        int from = 0;
        for (int r = 0; r < now.rows.size(); r++) {
            from = Math.max(from, now.leaves[r]);
        }
        boolean paid = sum(now.paid) > 0;
        for (Cue cue : now.cues) {
            from = Math.max(from, cue.moment);
            paid |= cue.deed == 0;
        }
        if (paid && now.until < 600) {
            from = Math.max(from, now.until + 1);
        }
        int[][][] night = play(600);
        for (int m = from; m <= 600; m++) {
            for (int n = m + 1; n <= 600; n++) {
                if (Arrays.equals(night[0][m], night[0][n]) && Arrays.equals(night[1][m], night[1][n])) {
                    return what == 0 ? m : n - m;
                }
            }
        }
        return NONE;
    }

    public int carries(int what) {
        int height = height(now.paid, now.hissing);
        return what == 0 ? height >= now.carry ? 1 : 0 : what == 1 ? height : NONE;
    }

    /** The tape's SEATS; null: not as told. */
    private List<Integer> hands() {
        List<Integer> hands = tape;
        tape = new ArrayList<>();
        return hands.size() >= 1 && hands.size() <= 8 && areUnlikeSeats(hands) ? hands : null;
    }

    private boolean areUnlikeSeats(List<Integer> hands) {
        return hands.stream().allMatch(this::isSeat) && hands.stream().distinct().count() == hands.size();
    }

    public int cheapest() {
        List<Integer> hands = hands();
        if (hands == null) {
            return -2;
        }
        int best = NONE;
        int[] bestRank = null;
        for (int set = 0; set < 1 << hands.size(); set++) {
            boolean[] paid = with(now.paid, hands, set);
            int price = 0;
            for (int i = 0; i < hands.size(); i++) {
                price += (set >> i & 1) == 1 ? now.price[hands.get(i) / columns()] : 0;
            }
            int[] rank = {price, Integer.bitCount(set), set};
            if (carrying(paid, now.hissing) && (bestRank == null || Arrays.compare(rank, bestRank) < 0)) {
                best = set;
                bestRank = rank;
            }
        }
        if (best == NONE) {
            return NONE;
        }
        bought = best;
        return bestRank[0];
    }

    public int bought() {
        return bought;
    }

    public int hush() {
        List<Integer> hands = hands();
        if (hands == null) {
            return -2;
        }
        for (int size = 0; size <= hands.size(); size++) {
            for (int set = 0; set < 1 << hands.size(); set++) {
                if (Integer.bitCount(set) == size && !carrying(now.paid, with(now.hissing, hands, set))) {
                    return set;
                }
            }
        }
        return NONE;
    }

    public int coalitions(int k) {
        List<Integer> hands = hands();
        if (hands == null) {
            return -2;
        }
        boolean[] carrying = new boolean[1 << hands.size()];
        for (int set = 0; set < carrying.length; set++) {
            carrying[set] = carrying(with(now.paid, hands, set), now.hissing);
        }
        List<Integer> least = new ArrayList<>();
        for (int set = 0; set < carrying.length; set++) {
            boolean is = carrying[set];
            for (int part = 0; part < set; part++) {
                is &= (part & ~set) != 0 || !carrying[part];
            }
            if (is) {
                least.add(set);
            }
        }
        return k == NONE ? least.size() : k >= 0 && k < least.size() ? least.get(k) : NONE;
    }

    public int worth() {
        List<Integer> hands = hands();
        if (hands == null) {
            return NONE;
        }
        int n = hands.size();
        int[] heights = new int[1 << n];
        for (int set = 0; set < heights.length; set++) {
            heights[set] = height(with(nobody(), hands, set), now.hissing);
        }
        worths = new long[n];
        orders = 0;
        come(heights, n, 0);
        return heights[heights.length - 1];
    }

    /** Every order, one by one. */
    private void come(int[] heights, int n, int here) {
        come(heights, n, here, new int[n], 0);
    }

    private void come(int[] heights, int n, int here, int[] adds, int many) {
        if (many == n) {
            orders++;
            for (int i = 0; i < n; i++) {
                worths[i] += adds[i];
            }
            return;
        }
        for (int i = 0; i < n; i++) {
            if ((here >> i & 1) == 0) {
                adds[i] = heights[here | 1 << i] - heights[here];
                come(heights, n, here | 1 << i, adds, many + 1);
            }
        }
    }

    public int worthOf(int i, int what) {
        if (i < 0 || i >= worths.length || what < 0 || what > 1) {
            throw new NoSuchElementException();
        }
        long common = java.math.BigInteger.valueOf(worths[i]).gcd(java.math.BigInteger.valueOf(orders)).longValue();
        return (int) ((what == 0 ? worths[i] : orders) / common);
    }

    public int sides() {
        List<Integer> all = tape;
        tape = new ArrayList<>();
        if (all.isEmpty() || all.get(0) > all.size() - 1) {
            return NONE;
        }
        List<Integer> first = all.subList(1, 1 + all.get(0));
        List<Integer> second = all.subList(1 + all.get(0), all.size());
        if (first.size() < 1 || first.size() > 6 || second.size() < 1 || second.size() > 6
                || !areUnlikeSeats(all.subList(1, all.size()))) {
            return NONE;
        }
        int sure = NONE;
        sides = new int[] {1000, NONE, NONE};
        for (int a : first) {
            int least = 1000;
            for (int b : second) {
                least = Math.min(least, height(with(now.paid, List.of(a), 1), with(now.hissing, List.of(b), 1)));
            }
            if (least > sure) {
                sure = least;
                sides[1] = a;
            }
        }
        for (int b : second) {
            int most = NONE;
            for (int a : first) {
                most = Math.max(most, height(with(now.paid, List.of(a), 1), with(now.hissing, List.of(b), 1)));
            }
            if (most < sides[0]) {
                sides[0] = most;
                sides[2] = b;
            }
        }
        return sure;
    }

    public int side(int what) {
        return what < 0 || what > 2 ? NONE : sides[what];
    }

    public int began(int t) {
        List<Integer> sketch = tape;
        tape = new ArrayList<>();
        if (t < 0 || t > 60 || sketch.size() != now.cells.length || seats().size() > 24) {
            return NONE;
        }
        for (int s : seats()) {
            if (sketch.get(s) > 3) {
                return NONE;
            }
        }
        int many = 0;
        began = new int[] {NONE, NONE};
        for (int a : seats()) {
            for (int b : seats()) {
                if (b >= a) {
                    int[] levels = play(only(a, b), now.hissing, t)[0][t];
                    boolean like = true;
                    for (int s : seats()) {
                        like &= sketch.get(s) == 3 || sketch.get(s) == levels[s];
                    }
                    if (like && many == 0) {
                        began = new int[] {a, a == b ? NONE : b};
                    }
                    many += like ? 1 : 0;
                }
            }
        }
        return many;
    }

    public int beganAt(int what) {
        return what < 0 || what > 1 ? NONE : began[what];
    }

    public int parts(int a, int b) {
        if (!isSeat(a) || !isSeat(b)) {
            return NONE;
        }
        int[][][] here = play(only(a), now.hissing, 60);
        int[][][] there = play(only(b), now.hissing, 60);
        for (int t = 0; t <= 60; t++) {
            if (!Arrays.equals(here[0][t], there[0][t])) {
                return t;
            }
        }
        return NONE;
    }

    private void swap(int a, int b) {
        char kind = now.cells[a];
        now.cells[a] = now.cells[b];
        now.cells[b] = kind;
    }

    /** The first two that bring HEIGHT to a number or more. */
    private int[] firstPair(int goal) {
        for (int a : seats()) {
            for (int b : seats()) {
                if (a < b && now.cells[a] != now.cells[b]) {
                    swap(a, b);
                    int then = height(now.paid, now.hissing);
                    swap(a, b);
                    if (then >= goal) {
                        return new int[] {a, b};
                    }
                }
            }
        }
        return null;
    }

    public int exchanged() {
        if (seats().size() > 24 || carrying(now.paid, now.hissing)) {
            return NONE;
        }
        int[] pair = firstPair(now.carry);
        return pair == null ? NONE : 100 * pair[0] + pair[1];
    }

    public boolean exchange(int a, int b) {
        if (!isSeat(a) || !isSeat(b) || a == b) {
            return false;
        }
        swap(a, b);
        return true;
    }

    public int starts(int s) {
        return isSeat(s) ? height(only(s), now.hissing) : NONE;
    }

    public int leader(int what) {
        int[] best = null;
        int leader = NONE;
        for (int s : seats()) {
            int[] rank = {-starts(s), now.price[s / columns()], s};
            if (best == null || Arrays.compare(rank, best) < 0) {
                best = rank;
                leader = s;
            }
        }
        return best == null || what < 0 || what > 1 ? NONE : what == 0 ? leader : -best[0];
    }

    public boolean drawn(int n, int seed) {
        List<Integer> left = seats();
        if (n < 1 || n > left.size()) {
            return false;
        }
        now.paid = nobody();
        int x = seed;
        for (int i = 0; i < n; i++) {
            x = x * 1103515245 + 12345;
            now.paid[left.remove((x >>> 8) % left.size())] = true;
        }
        return true;
    }

    public int arrange() {
        if (seats().size() > 24) {
            return NONE;
        }
        arranged = 0;
        int[] pair = firstPair(height(now.paid, now.hissing) + 1);
        while (pair != null && arranged < 20) {
            swap(pair[0], pair[1]);
            arranged++;
            pair = firstPair(height(now.paid, now.hissing) + 1);
        }
        return height(now.paid, now.hissing);
    }

    public int arranged() {
        return arranged;
    }

    public boolean image(int k) {
        if (k != 0 && k != 1) {
            return false;
        }
        images[k] = now.copy();
        return true;
    }

    public boolean restore(int k) {
        if (k != 0 && k != 1 || images[k] == null) {
            return false;
        }
        now = images[k].copy();
        return true;
    }

    public int count(int what) {
        int[] all = {now.rows.size(), columns(), seats().size(), now.carry, now.until, now.byRows ? 1 : 0,
            sum(now.paid), sum(now.hissing), tape.size(), now.cues.size()};
        return what < 0 || what >= all.length ? NONE : all[what];
    }
}
