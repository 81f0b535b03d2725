/** Each boundary that Promise 1 to Promise 42 name: refused calls, ends of ranges, what stays. */
public final class PromiseEdgesTest {
    private static final int NONE = HouseClaps.NONE;
    private static final int LEAST = Integer.MIN_VALUE;
    private static final int MOST = Integer.MAX_VALUE;
    /** SEATS 0, 2, 3, 4, 5; a pillar at 1; two rows of three. */
    private static final String HOUSE = "row axb;row abc;up a self<9;down a held>9;up b beside 2>0;price 1 3;leaves 1 50;carry 3;paid 40;";
    private static final int[] NO_SEATS = {LEAST, -65, -64, -1, 1, 6, 7, 63, 64, 65, 256, MOST};
    private static final int[] NO_MOMENTS = {LEAST, -1, 601, 1024, MOST};

    public static void main(String[] args) {
        promise1NewObject();
        promise2Feed();
        promise3End();
        promise4House();
        promise5Fault();
        promise6Seat();
        promise7Law();
        promise8Pay();
        promise9Hiss();
        promise10Cues();
        promise11Cue();
        promise12Sees();
        promise13At();
        promise14Many();
        promise15Would();
        promise16Stands();
        promise17Anyway();
        promise18Up();
        promise19Calls();
        promise20Again();
        promise21Carries();
        promise22Cheapest();
        promise23Bought();
        promise24Hush();
        promise25Coalitions();
        promise26Worth();
        promise27WorthOf();
        promise28Sides();
        promise29Side();
        promise30Began();
        promise31BeganAt();
        promise32Parts();
        promise33Exchanged();
        promise34Exchange();
        promise35Starts();
        promise36Leader();
        promise37Drawn();
        promise38Arrange();
        promise39Arranged();
        promise40Image();
        promise41Restore();
        promise42Count();
        upTo512Calls();
        Stage.close("PromiseEdgesTest");
    }

    private static int[] others(int from, int to) {
        return new int[] {LEAST, from - 1, to + 1, to + 64, MOST};
    }

    /** A stage on which everything has been told once. */
    private static Stage played() {
        Stage stage = Stage.of(HOUSE);
        stage.x.pay(0, 1);
        stage.x.hiss(4, 1);
        stage.cues("at 3 pay 1 0;at 7 still;");
        stage.tape(2, 3).x.cheapest();
        stage.tape(0, 5).x.worth();
        stage.tape(1, 0, 5).x.sides();
        stage.tape(2, 0, 0, 2, 0, 0).x.began(3);
        stage.x.arrange();
        stage.tape(7, 8, 9);
        return stage;
    }

    /** What is told without what other calls told last. */
    private static String held(Stage stage) {
        return stage.told().replaceAll("last .*", "");
    }

    /** A call that was refused has changed nothing, not even the tape. */
    private static void dueRefused(String what, Stage stage, String before) {
        Stage.dueSame("refused " + what, stage.told(), before);
    }

    /** An empty HOUSE; an empty tape. */
    private static void promise1NewObject() {
        Stage stage = new Stage();
        int[] counts = {0, 0, 0, 1, 600, 0, 0, 0, 0, 0};
        for (int what = 0; what < 10; what++) {
            Stage.due("count " + what, stage.x.count(what), counts[what]);
        }
        Stage.dueThrows("no SEAT", () -> stage.x.seat(0, 0));
        Stage.dueThrows("no CUE", () -> stage.x.cue(0, 0));
        Stage.due("no law", stage.x.law(0, 0), NONE);
        Stage.due("the empty tape is the same HOUSE", stage.x.house(), 0);
        Stage.due("the empty tape is no CUES", stage.x.cues(), 0);
        Stage.due("nobody", stage.x.many(0, 0), 0);
        Stage other = Stage.of("row a;");
        Stage.due("another object", stage.x.count(0), 0);
        Stage.due("its own HOUSE", other.x.count(0), 1);
    }

    /** NONE, and none come, if it would have more than 940. */
    private static void promise2Feed() {
        Stage stage = new Stage();
        for (int i = 1; i <= 47; i++) {
            Stage.due("feed " + i, stage.x.feed(LEAST, -1, 0, 1, MOST), 20 * i);
        }
        Stage.due("a full tape", stage.x.feed(0, 0, 0, 0, 0), NONE);
        Stage.due("is as it was", stage.x.count(8), 940);
        stage.x.end(921);
        Stage.due("941 would be", stage.x.feed(0, 0, 0, 0, 0), NONE);
        Stage.due("921 as they were", stage.x.count(8), 921);
        stage.x.end(920);
        Stage.due("940 would be", stage.x.feed(0, 0, 0, 0, 0), 940);
        Stage bytes = Stage.of("row aaaaaaaa;".repeat(8));
        bytes.x.feed(0x3F3E3D3C, 0x3B3A3938, 0, 0, 0);
        bytes.x.end(8);
        Stage.due("of each number the highest first", bytes.x.worth(), 8);
        bytes.x.feed(0x40000000, 0, 0, 0, 0);
        bytes.x.end(1);
        Stage.due("the highest byte is SEAT 64", bytes.x.worth(), NONE);
        bytes.x.feed(0x00000040, 0, 0, 0, 0);
        bytes.x.end(1);
        Stage.due("the highest byte is SEAT 0", bytes.x.worth(), 1);
        bytes.x.feed(0xFF000000, 0, 0, 0, 0);
        bytes.x.end(1);
        Stage.due("255 is no SEAT", bytes.x.worth(), NONE);
        Stage refused = new Stage();
        refused.text("row a;" + " ".repeat(894));
        refused.x.feed(0, 0, 0, 0, 0);
        refused.x.feed(0, 0, 0, 0, 0);
        Stage.due("fed up to 940", refused.x.feed(0, 0, 0, 0, 0), NONE);
        refused.x.end(900);
        Stage.due("nothing was overwritten", refused.x.house(), 1);
    }

    /** False, if it has not so many, or n is below 0. */
    private static void promise3End() {
        Stage stage = new Stage();
        Stage.due("0 of 0", stage.x.end(0), true);
        Stage.due("1 of 0", stage.x.end(1), false);
        stage.x.feed(1, 2, 3, 4, 5);
        for (int n : new int[] {LEAST, -1, 21, 940, MOST}) {
            Stage.due("end " + n, stage.x.end(n), false);
            Stage.due("behind end " + n, stage.x.count(8), 20);
        }
        Stage.due("20 of 20", stage.x.end(20), true);
        Stage.due("19 of 20", stage.x.end(19), true);
        Stage.due("20 of 19", stage.x.end(20), false);
        Stage.due("0 of 19", stage.x.end(0), true);
        Stage.due("1 of 0 again", stage.x.end(1), false);
        Stage.due("an empty tape", stage.x.count(8), 0);
    }

    /** The tape is empty then; -1 less the place of a FAULT: it stays. */
    private static void promise4House() {
        Stage stage = played();
        stage.x.end(0);
        String before = held(stage);
        Stage.due("a FAULT at 0", stage.house("?"), -1);
        Stage.due("a FAULT at 7", stage.house("row aa;?"), -8);
        Stage.due("a FAULT at the very end", stage.house("row aa;rows;carry 2"), -20);
        Stage.due("a FAULT at 900", stage.house(" ".repeat(940)), -901);
        Stage.due("the tape is empty", stage.x.count(8), 0);
        Stage.dueSame("it stays, all of it", held(stage), before);
        Stage.due("900 LINES are never, but 150 rows", stage.house("row a;".repeat(150)), -1 - 48);
        Stage.due("an empty one", stage.house(""), 0);
        Stage.due("no rows", stage.x.count(0), 0);
    }

    /** Of the latest house() or cues(); 0 without one and ahead of any. */
    private static void promise5Fault() {
        Stage stage = new Stage();
        Stage.due("ahead of any", stage.x.fault(), 0);
        stage.house("row g;");
        Stage.due("of house()", stage.x.fault(), 2);
        Stage.due("again the same", stage.x.fault(), 2);
        stage.cues("?");
        Stage.due("of cues()", stage.x.fault(), 1);
        stage.house("rows;rows;");
        Stage.due("of house() again", stage.x.fault(), 3);
        stage.cues("at 0 still;");
        Stage.due("cues() without", stage.x.fault(), 0);
        stage.house("row a;".repeat(9));
        Stage.due("of a ninth row", stage.x.fault(), 4);
        stage.tape(9).x.cheapest();
        stage.tape(9).x.worth();
        Stage.due("no other call has one", stage.x.fault(), 4);
        stage.house("");
        Stage.due("house() without", stage.x.fault(), 0);
    }

    private static void promise6Seat() {
        Stage stage = played();
        String before = stage.told();
        for (int s : NO_SEATS) {
            for (int what = 0; what < 5; what++) {
                int asked = what;
                Stage.dueThrows("seat " + s + " " + what, () -> stage.x.seat(s, asked));
            }
        }
        for (int what : others(0, 4)) {
            Stage.dueThrows("what " + what, () -> stage.x.seat(0, what));
            Stage.dueThrows("no SEAT, no what " + what, () -> stage.x.seat(1, what));
        }
        dueRefused("seat", stage, before);
        HouseClaps x = Stage.of("row xa;row fx;price 1 999;leaves 1 600;").x;
        int[][] due = {{0, 10, NONE, 0, 0}, {5, 999, 600, 0, 0}};
        for (int what = 0; what < 5; what++) {
            Stage.due("SEAT 1 " + what, x.seat(1, what), due[0][what]);
            Stage.due("SEAT 2 " + what, x.seat(2, what), due[1][what]);
        }
    }

    /** NONE: not told, no such ones. */
    private static void promise7Law() {
        HouseClaps x = Stage.of(HOUSE).x;
        int[] due = {1, 1, 1, NONE, NONE, NONE, NONE, NONE, NONE, NONE, NONE, NONE};
        for (int law = 0; law < 12; law++) {
            Stage.due("law " + law, x.law(law / 2, law % 2), due[law]);
        }
        for (int kind : others(0, 5)) {
            Stage.due("kind " + kind, x.law(kind, 0), NONE);
            Stage.due("kind " + kind + " down", x.law(kind, 1), NONE);
        }
        for (int what : others(0, 1)) {
            Stage.due("what " + what, x.law(0, what), NONE);
        }
        String twenty = "self>0" + " or self>0".repeat(19);
        HouseClaps full = Stage.of("up f " + twenty + ";down f not self>0;").x;
        Stage.due("20 of f", full.law(5, 0), 20);
        Stage.due("a 'not' and its ONE", full.law(5, 1), 2);
    }

    private static void promise8Pay() {
        Stage stage = played();
        String before = stage.told();
        for (int s : NO_SEATS) {
            Stage.due("pay " + s, stage.x.pay(s, 1), false);
            Stage.due("pay no more " + s, stage.x.pay(s, 0), false);
        }
        for (int is : others(0, 1)) {
            Stage.due("pay with " + is, stage.x.pay(2, is), false);
            Stage.due("pay the PAID one with " + is, stage.x.pay(0, is), false);
        }
        dueRefused("pay", stage, before);
        Stage.due("PAID already", stage.x.pay(0, 1), true);
        Stage.due("is the same", stage.x.count(6), 1);
        Stage.due("not PAID anyway", stage.x.pay(2, 0), true);
        Stage.due("is the same, too", stage.x.count(6), 1);
        HouseClaps full = Stage.of("row aaaaaaaa;".repeat(8)).x;
        for (int s = 0; s < 64; s++) {
            full.pay(s, 1);
        }
        Stage.due("all 64", full.count(6), 64);
        Stage.due("all 64 stand", full.many(600, 2), 64);
        Stage.due("the last one no more", full.pay(63, 0), true);
        Stage.due("63 are", full.count(6), 63);
    }

    /** It is not PAID in effect then. */
    private static void promise9Hiss() {
        Stage stage = played();
        String before = stage.told();
        for (int s : NO_SEATS) {
            Stage.due("hiss " + s, stage.x.hiss(s, 1), false);
            Stage.due("hiss no more " + s, stage.x.hiss(s, 0), false);
        }
        for (int is : others(0, 1)) {
            Stage.due("hiss with " + is, stage.x.hiss(2, is), false);
            Stage.due("hiss the HISSING one with " + is, stage.x.hiss(4, is), false);
        }
        dueRefused("hiss", stage, before);
        HouseClaps x = Stage.of("row aa;").x;
        x.hiss(0, 1);
        Stage.due("pay one who HISSES", x.pay(0, 1), true);
        Stage.due("PAID", x.seat(0, 3), 1);
        Stage.due("HISSES", x.seat(0, 4), 1);
        Stage.due("not in effect", x.at(0, 0, 0), 0);
        Stage.due("not in effect: nobody stands", x.carries(1), 0);
        x.hiss(0, 0);
        Stage.due("in effect again", x.at(0, 0, 0), 2);
        x.hiss(0, 1);
        x.pay(0, 0);
        x.hiss(0, 0);
        Stage.due("neither", x.at(0, 0, 0), 0);
    }

    /** -1 less the place of a FAULT: they stay. */
    private static void promise10Cues() {
        Stage stage = played();
        stage.x.end(0);
        String before = held(stage);
        Stage.due("a FAULT at 0", stage.cues("?"), -1);
        Stage.due("a FAULT behind good ones", stage.cues("at 0 still;at 1 still;at"), -25);
        Stage.due("a FAULT at 400", stage.cues(" ".repeat(401)), -401);
        Stage.due("the tape is empty", stage.x.count(8), 0);
        Stage.dueSame("they stay, all of them", held(stage), before);
        Stage.due("thirty", stage.cues("at 9 still;".repeat(30)), 30);
        Stage.due("a 31st", stage.cues("at 9 still;".repeat(31)), -331);
        Stage.due("thirty stay", stage.x.count(9), 30);
        Stage.due("none", stage.cues(""), 0);
        Stage.due("none now", stage.x.count(9), 0);
        Stage.due("PAID stays", stage.x.seat(0, 3), 1);
    }

    private static void promise11Cue() {
        Stage stage = Stage.of("row ax;row aa;");
        Stage.dueThrows("of none", () -> stage.x.cue(0, 0));
        stage.cues("at 0 pay 1 1;at 5 hiss 0 0;at 5 free 1 0;at 600 still;");
        int[][] due = {{0, 0, 3}, {5, 1, 0}, {5, 2, 2}, {600, 3, NONE}};
        for (int i = 0; i < 4; i++) {
            for (int what = 0; what < 3; what++) {
                Stage.due("cue " + i + " " + what, stage.x.cue(i, what), due[i][what]);
            }
        }
        String before = stage.told();
        for (int i : others(0, 3)) {
            Stage.dueThrows("cue " + i, () -> stage.x.cue(i, 0));
        }
        for (int what : others(0, 2)) {
            Stage.dueThrows("what " + what, () -> stage.x.cue(0, what));
        }
        dueRefused("cue", stage, before);
        stage.cues("at 1 still;".repeat(30));
        Stage.due("the last of thirty", stage.x.cue(29, 1), 3);
        Stage.dueThrows("behind the last of thirty", () -> stage.x.cue(30, 1));
        stage.cues("");
        Stage.dueThrows("of none any more", () -> stage.x.cue(0, 0));
    }

    private static void promise12Sees() {
        Stage stage = played();
        String before = stage.told();
        for (int s : NO_SEATS) {
            Stage.due("sees of " + s, stage.x.sees(s, 0, 0, 1), NONE);
        }
        for (int t : NO_MOMENTS) {
            Stage.due("sees in " + t, stage.x.sees(0, t, 0, 1), NONE);
        }
        for (int area : others(0, 5)) {
            Stage.due("sees area " + area, stage.x.sees(0, 0, area, 1), NONE);
        }
        for (int level : others(1, 2)) {
            Stage.due("sees level " + level, stage.x.sees(0, 0, 5, level), NONE);
        }
        dueRefused("sees", stage, before);
        Stage.due("in moment 0", stage.x.sees(2, 0, 5, 2), 1);
        HouseClaps x = Stage.of("row ab;up b self<9;").x;
        Stage.due("in moment 600", x.sees(0, 600, 5, 2), 1);
        Stage.due("in moment 1", x.sees(0, 1, 5, 1), 1);
        Stage.due("in moment 1, standing", x.sees(0, 1, 5, 2), 0);
    }

    private static void promise13At() {
        Stage stage = played();
        String before = stage.told();
        for (int s : NO_SEATS) {
            Stage.due("at of " + s, stage.x.at(s, 0, 0), NONE);
        }
        for (int t : NO_MOMENTS) {
            Stage.due("at in " + t, stage.x.at(0, t, 0), NONE);
            Stage.due("HELD in " + t, stage.x.at(0, t, 1), NONE);
        }
        for (int what : others(0, 1)) {
            Stage.due("at what " + what, stage.x.at(0, 0, what), NONE);
        }
        dueRefused("at", stage, before);
        Stage late = Stage.of("row a;");
        late.cues("at 600 pay 0 0;");
        Stage.due("in 600 asked first", late.x.at(0, 600, 0), 2);
        Stage.due("then in 0", late.x.at(0, 0, 0), 0);
        Stage.due("then in 599", late.x.at(0, 599, 0), 0);
        Stage.due("then in 600", late.x.at(0, 600, 1), 0);
    }

    private static void promise14Many() {
        HouseClaps x = Stage.of("row axa;up a self<9;").x;
        for (int t : NO_MOMENTS) {
            for (int level = 0; level < 3; level++) {
                Stage.due("many in " + t, x.many(t, level), NONE);
            }
        }
        for (int level : others(0, 2)) {
            Stage.due("many of level " + level, x.many(0, level), NONE);
        }
        Stage.due("0 in 0", x.many(0, 0), 2);
        Stage.due("1 in 0", x.many(0, 1), 0);
        Stage.due("0 in 600", x.many(600, 0), 2);
        Stage.due("2 in 600", x.many(600, 2), 2);
    }

    /** By what it perceives of moment t (0 to 600), all rows of it. */
    private static void promise15Would() {
        Stage stage = played();
        String before = stage.told();
        for (int s : NO_SEATS) {
            Stage.due("would of " + s, stage.x.would(s, 0, 0), NONE);
        }
        for (int t : NO_MOMENTS) {
            Stage.due("would in " + t, stage.x.would(0, t, 0), NONE);
        }
        for (int what : others(0, 1)) {
            Stage.due("would what " + what, stage.x.would(0, 0, what), NONE);
        }
        dueRefused("would", stage, before);
        HouseClaps x = Stage.of("row a;row b;row c;up a behind 1>0;up b self<9;rows;").x;
        Stage.due("of moment 0", x.would(0, 0, 0), 0);
        Stage.due("of moment 1, rows behind it, too", x.would(0, 1, 0), 1);
        Stage.due("of moment 600", x.would(0, 600, 0), 1);
        Stage.due("down is not told", x.would(0, 0, 1), NONE);
        Stage.due("up is not told", x.would(2, 0, 0), NONE);
        StringBuilder all = new StringBuilder("row abcdef;");
        for (char kind = 'a'; kind <= 'f'; kind++) {
            all.append("up ").append(kind).append(" self<9;down ").append(kind).append(" self>9;");
        }
        HouseClaps full = Stage.of(all.toString()).x;
        for (int s = 0; s < 6; s++) {
            Stage.due("up holds for " + s, full.would(s, 600, 0), 1);
            Stage.due("down does not hold for " + s, full.would(s, 600, 1), 0);
            for (int what : others(0, 1)) {
                Stage.due("what " + what + " of " + s, full.would(s, 600, what), NONE);
            }
        }
    }

    private static void promise16Stands() {
        Stage stage = Stage.of(HOUSE);
        for (int s : NO_SEATS) {
            Stage.due("stands of " + s, stage.x.stands(s), NONE);
        }
        stage.house("row aaaa;");
        stage.x.pay(0, 1);
        stage.cues("at 600 pay 0 1;at 600 hiss 0 2;");
        Stage.due("in 0", stage.x.stands(0), 0);
        Stage.due("in 600", stage.x.stands(1), 600);
        Stage.due("never", stage.x.stands(3), NONE);
        stage.house("row a;up a self<1;");
        Stage.due("claps alone", stage.x.stands(0), NONE);
        stage.house("row a;up a self<1;down a self=1;");
        Stage.due("to and fro between still and clapping", stage.x.stands(0), NONE);
    }

    private static void promise17Anyway() {
        Stage stage = played();
        String before = stage.told();
        for (int t : NO_MOMENTS) {
            Stage.due("anyway in " + t, stage.x.anyway(t), NONE);
        }
        stage.x.anyway(600);
        dueRefused("anyway", stage, before);
        HouseClaps x = Stage.of("row ab;up b self<9;").x;
        x.pay(0, 1);
        Stage.due("in 0", x.anyway(0), 0);
        Stage.due("in 600", x.anyway(600), 1);
        Stage.due("PAID stays", x.at(0, 600, 0), 2);
    }

    /** The first moment (0 to 600); NONE: none. */
    private static void promise18Up() {
        Stage stage = Stage.of("row a;");
        Stage.due("none", stage.x.up(), NONE);
        stage.cues("at 600 pay 0 0;");
        Stage.due("in 600", stage.x.up(), 600);
        stage.x.pay(0, 1);
        Stage.due("in 0", stage.x.up(), 0);
        stage.house("row x;");
        Stage.due("pillars never", stage.x.up(), NONE);
        stage.house("row a;up a self<1;down a self=1;");
        Stage.due("to and fro between still and clapping", stage.x.up(), NONE);
    }

    private static void promise19Calls() {
        Stage stage = Stage.of("row a;");
        stage.x.pay(0, 1);
        for (int t : NO_MOMENTS) {
            Stage.due("calls to " + t, stage.x.calls(t), NONE);
        }
        Stage.due("to 0", stage.x.calls(0), 1);
        Stage.due("to 600", stage.x.calls(600), 1);
        stage.house("row a;up a held=0;down a self>0;");
        Stage.due("0 1 2 2 1 2 2 1 ..: to 599", stage.x.calls(599), 200);
        Stage.due("0 1 2 2 1 2 2 1 ..: to 600", stage.x.calls(600), 200);
        Stage.due("0 1 2 2 1 2 2 1 ..: to 598", stage.x.calls(598), 199);
    }

    private static void promise20Again() {
        Stage stage = Stage.of("row a;");
        for (int what : others(0, 1)) {
            Stage.due("again " + what, stage.x.again(what), NONE);
        }
        Stage.due("M", stage.x.again(0), 3);
        Stage.due("later", stage.x.again(1), 1);
        stage.house("row a;leaves 0 600;");
        Stage.due("not in 600: M", stage.x.again(0), NONE);
        Stage.due("not in 600: later", stage.x.again(1), NONE);
    }

    private static void promise21Carries() {
        HouseClaps x = Stage.of("row aa;carry 2;").x;
        for (int what : others(0, 1)) {
            Stage.due("carries " + what, x.carries(what), NONE);
        }
        x.pay(0, 1);
        Stage.due("one less", x.carries(0), 0);
        Stage.due("HEIGHT 1", x.carries(1), 1);
        x.pay(1, 1);
        Stage.due("as many", x.carries(0), 1);
        Stage.due("HEIGHT 2", x.carries(1), 2);
    }

    /** NONE: no set CARRIES; -2: not as told. */
    private static void promise22Cheapest() {
        Stage stage = Stage.of("row aax;carry 2;");
        Stage.due("no set", stage.tape(0).x.cheapest(), NONE);
        Stage.due("the tape is empty", stage.x.count(8), 0);
        Stage.due("both", stage.tape(0, 1).x.cheapest(), 20);
        int[][] wrong = {{}, {2}, {3}, {0, 0}, {0, 2}, {255}, {0, 1, 2}};
        for (int[] tape : wrong) {
            stage.tape(tape);
            Stage.due("not as told", stage.x.cheapest(), -2);
            Stage.due("the tape is empty then, too", stage.x.count(8), 0);
        }
        Stage.due("nobody is PAID by it", stage.x.count(6), 0);
        Stage.due("in an empty HOUSE", new Stage().tape(0).x.cheapest(), -2);
    }

    /** Of the latest cheapest() that was 0 or above; NONE ahead of any. */
    private static void promise23Bought() {
        Stage stage = Stage.of("row aab;price 0 0;carry 2;");
        Stage.due("ahead of any", stage.x.bought(), NONE);
        stage.tape(0).x.cheapest();
        Stage.due("behind NONE", stage.x.bought(), NONE);
        stage.tape().x.cheapest();
        Stage.due("behind -2", stage.x.bought(), NONE);
        stage.tape(2, 0, 1).x.cheapest();
        Stage.due("behind a price of 0", stage.x.bought(), 3);
        stage.tape(0).x.cheapest();
        Stage.due("stays behind NONE", stage.x.bought(), 3);
        stage.tape().x.cheapest();
        Stage.due("stays behind -2", stage.x.bought(), 3);
        stage.house("row a;");
        Stage.due("stays in a new HOUSE", stage.x.bought(), 3);
    }

    private static void promise24Hush() {
        Stage stage = Stage.of("row aax;");
        Stage.due("does not CARRY: the empty set", stage.tape(0).x.hush(), 0);
        stage.x.pay(0, 1);
        Stage.due("no set", stage.tape(1).x.hush(), NONE);
        Stage.due("the one", stage.tape(1, 0).x.hush(), 2);
        int[][] wrong = {{}, {2}, {3}, {0, 0}, {255}};
        for (int[] tape : wrong) {
            stage.tape(tape);
            Stage.due("not as told", stage.x.hush(), -2);
            Stage.due("the tape is empty", stage.x.count(8), 0);
        }
        Stage.due("nobody HISSES by it", stage.x.count(7), 0);
        Stage.due("in an empty HOUSE", new Stage().tape(0).x.hush(), -2);
    }

    private static void promise25Coalitions() {
        Stage stage = Stage.of("row aax;");
        Stage.due("how many", stage.tape(0, 1).x.coalitions(NONE), 2);
        Stage.due("0", stage.tape(0, 1).x.coalitions(0), 1);
        Stage.due("1", stage.tape(0, 1).x.coalitions(1), 2);
        for (int k : new int[] {LEAST, -2, 2, MOST}) {
            Stage.due("there is none such: " + k, stage.tape(0, 1).x.coalitions(k), NONE);
            Stage.due("not as told: " + k, stage.tape(0, 2).x.coalitions(k), -2);
            Stage.due("the tape is empty", stage.x.count(8), 0);
        }
        stage.house("row aa;carry 2;");
        Stage.due("none at all", stage.tape(0).x.coalitions(NONE), 0);
        Stage.due("none at all, so none such", stage.tape(0).x.coalitions(0), NONE);
    }

    private static void promise26Worth() {
        Stage stage = Stage.of("row aax;");
        Stage.due("both", stage.tape(0, 1).x.worth(), 2);
        int[][] wrong = {{}, {2}, {3}, {0, 0}, {255}, {0, 1, 0}};
        for (int[] tape : wrong) {
            stage.tape(tape);
            Stage.due("not as told", stage.x.worth(), NONE);
            Stage.due("the tape is empty", stage.x.count(8), 0);
        }
        stage.x.hiss(0, 1);
        Stage.due("HEIGHT 0 is no NONE", stage.tape(0).x.worth(), 0);
    }

    /** By the latest worth() that was not NONE. */
    private static void promise27WorthOf() {
        Stage stage = Stage.of("row aaa;");
        Stage.dueThrows("ahead of any", () -> stage.x.worthOf(0, 0));
        stage.tape().x.worth();
        Stage.dueThrows("behind NONE", () -> stage.x.worthOf(0, 0));
        stage.tape(0, 1, 2).x.worth();
        String before = stage.told();
        for (int i : others(0, 2)) {
            Stage.dueThrows("worthOf " + i, () -> stage.x.worthOf(i, 0));
        }
        for (int what : others(0, 1)) {
            Stage.dueThrows("what " + what, () -> stage.x.worthOf(0, what));
        }
        dueRefused("worthOf", stage, before);
        Stage.due("the last", stage.x.worthOf(2, 0), 1);
        stage.tape(9).x.worth();
        Stage.due("stays behind NONE", stage.x.worthOf(2, 1), 1);
        stage.house("row a;");
        Stage.due("stays in a new HOUSE", stage.x.worthOf(2, 0), 1);
        stage.tape(0).x.worth();
        Stage.dueThrows("one alone now", () -> stage.x.worthOf(1, 0));
        stage.house("row ab;");
        stage.x.hiss(0, 1);
        stage.tape(0, 1).x.worth();
        Stage.due("nothing is 0", stage.x.worthOf(0, 0), 0);
        Stage.due("over 1", stage.x.worthOf(0, 1), 1);
    }

    private static void promise28Sides() {
        Stage stage = Stage.of("row aaax;");
        Stage.due("one against one", stage.tape(1, 0, 1).x.sides(), 1);
        Stage.due("the tape is empty", stage.x.count(8), 0);
        Stage.due("not as told", stage.tape(1, 0).x.sides(), NONE);
        Stage.due("the tape is empty then, too", stage.x.count(8), 0);
        Stage.due("nobody is PAID by it", stage.x.count(6), 0);
        Stage.due("nobody HISSES by it", stage.x.count(7), 0);
        stage.x.hiss(0, 1);
        Stage.due("sure of 0 is no NONE", stage.tape(1, 0, 1).x.sides(), 0);
    }

    /** By the latest sides() that was not NONE; NONE: another what, or ahead of any. */
    private static void promise29Side() {
        Stage stage = Stage.of("row aaa;");
        for (int what = 0; what < 3; what++) {
            Stage.due("ahead of any " + what, stage.x.side(what), NONE);
        }
        stage.tape().x.sides();
        Stage.due("behind NONE", stage.x.side(0), NONE);
        stage.tape(1, 2, 1).x.sides();
        int[] due = {1, 2, 1};
        for (int what : others(0, 2)) {
            Stage.due("side " + what, stage.x.side(what), NONE);
        }
        for (int round = 0; round < 3; round++) {
            for (int what = 0; what < 3; what++) {
                Stage.due("side " + what + " in round " + round, stage.x.side(what), due[what]);
            }
            if (round == 0) {
                stage.tape(1, 1, 1).x.sides();
            } else {
                stage.house("row a;");
            }
        }
    }

    /** NONE: not as told, or more than 24 SEATS. */
    private static void promise30Began() {
        Stage stage = Stage.of("row ax;row aa;");
        Stage.due("as told", stage.tape(2, 0, 0, 0).x.began(0), 1);
        Stage.due("the tape is empty", stage.x.count(8), 0);
        for (int t : others(0, 60)) {
            Stage.due("moment " + t, stage.tape(3, 3, 3, 3).x.began(t), NONE);
            Stage.due("the tape is empty behind " + t, stage.x.count(8), 0);
        }
        Stage.due("too short", stage.tape(3, 3, 3).x.began(0), NONE);
        Stage.due("too long", stage.tape(3, 3, 3, 3, 3).x.began(0), NONE);
        Stage.due("a 4", stage.tape(3, 3, 3, 4).x.began(0), NONE);
        stage.house("row aaaaa;".repeat(5));
        int[] sketch = new int[25];
        Stage.due("25 SEATS", stage.tape(sketch).x.began(0), NONE);
    }

    /** NONE, too: no set, ahead of any. */
    private static void promise31BeganAt() {
        Stage stage = Stage.of("row aaa;");
        for (int what = -1; what < 3; what++) {
            Stage.due("ahead of any " + what, stage.x.beganAt(what), NONE);
        }
        stage.tape(3, 2, 2).x.began(0);
        Stage.due("the first", stage.x.beganAt(0), 1);
        Stage.due("the second", stage.x.beganAt(1), 2);
        for (int what : others(0, 1)) {
            Stage.due("beganAt " + what, stage.x.beganAt(what), NONE);
        }
        stage.tape(2, 0, 0).x.began(0);
        Stage.due("one alone", stage.x.beganAt(0), 0);
        Stage.due("has no second", stage.x.beganAt(1), NONE);
        stage.tape(2, 2, 2).x.began(0);
        Stage.due("no set", stage.x.beganAt(0), NONE);
        Stage.due("no set has no second", stage.x.beganAt(1), NONE);
    }

    private static void promise32Parts() {
        Stage stage = played();
        String before = stage.told();
        for (int s : NO_SEATS) {
            Stage.due("parts of " + s, stage.x.parts(s, 0), NONE);
            Stage.due("parts with " + s, stage.x.parts(0, s), NONE);
        }
        Stage.due("parts", stage.x.parts(0, 2), 0);
        Stage.due("never", stage.x.parts(0, 0), NONE);
        dueRefused("parts", stage, before);
    }

    private static void promise33Exchanged() {
        Stage stage = Stage.of("row bba;up a beside 2>0;carry 2;");
        stage.x.pay(0, 1);
        String before = stage.told();
        Stage.due("1 and 2", stage.x.exchanged(), 102);
        Stage.dueSame("exchanges none", stage.told(), before);
        stage.x.pay(1, 1);
        Stage.due("CARRIES as it is", stage.x.exchanged(), NONE);
        stage.house("row bbb;carry 2;");
        Stage.due("no two", stage.x.exchanged(), NONE);
        stage.house("row aaaaa;row aaaaa;row aaaaa;row aaaaa;row aabba;up a beside 2>0;carry 4;");
        stage.x.pay(23, 1);
        Stage.due("25 SEATS", stage.x.exchanged(), NONE);
    }

    /** False: no such ones, or one. */
    private static void promise34Exchange() {
        Stage stage = played();
        String before = stage.told();
        for (int s : NO_SEATS) {
            Stage.due("exchange " + s, stage.x.exchange(s, 0), false);
            Stage.due("exchange with " + s, stage.x.exchange(0, s), false);
            Stage.due("exchange both " + s, stage.x.exchange(s, s), false);
        }
        for (int s : new int[] {0, 2, 3, 4, 5}) {
            Stage.due("one and the same " + s, stage.x.exchange(s, s), false);
        }
        dueRefused("exchange", stage, before);
        Stage.due("exchange", stage.x.exchange(5, 0), true);
        Stage.due("and back", stage.x.exchange(0, 5), true);
        dueRefused("exchanged to and fro", stage, before);
        stage.house("row aa;");
        Stage.due("like KINDS", stage.x.exchange(0, 1), true);
        HouseClaps full = Stage.of("row aaaaaaaa;".repeat(7) + "row aaaaaaab;").x;
        Stage.due("0 and 63 of 64", full.exchange(0, 63), true);
        Stage.due("KIND of 0", full.seat(0, 0), 1);
        Stage.due("KIND of 63", full.seat(63, 0), 0);
    }

    private static void promise35Starts() {
        Stage stage = played();
        String before = stage.told();
        for (int s : NO_SEATS) {
            Stage.due("starts of " + s, stage.x.starts(s), NONE);
        }
        stage.x.starts(0);
        dueRefused("starts", stage, before);
        HouseClaps full = Stage.of("row aaaaaaaa;".repeat(8) + "up a near 2>0;").x;
        Stage.due("SEAT 63 starts all", full.starts(63), 64);
    }

    /** NONE: no SEATS, another what. */
    private static void promise36Leader() {
        HouseClaps x = Stage.of("row xa;").x;
        Stage.due("the SEAT", x.leader(0), 1);
        Stage.due("its STARTS", x.leader(1), 1);
        for (int what : others(0, 1)) {
            Stage.due("leader " + what, x.leader(what), NONE);
        }
        for (int what = 0; what < 2; what++) {
            Stage.due("of an empty HOUSE", new HouseClaps().leader(what), NONE);
            Stage.due("of pillars alone", Stage.of("row xx;").x.leader(what), NONE);
        }
    }

    /** 1 to all SEATS; false: not as told. */
    private static void promise37Drawn() {
        Stage stage = played();
        String before = stage.told();
        for (int n : new int[] {LEAST, -1, 0, 6, 64, MOST}) {
            Stage.due("drawn " + n, stage.x.drawn(n, 1), false);
        }
        dueRefused("drawn", stage, before);
        Stage.due("one", stage.x.drawn(1, 1), true);
        Stage.due("one is PAID", stage.x.count(6), 1);
        Stage.due("all five", stage.x.drawn(5, 1), true);
        Stage.due("all are PAID", stage.x.count(6), 5);
        Stage.due("of pillars alone", Stage.of("row xx;").x.drawn(1, 1), false);
        Stage.due("none of pillars alone", Stage.of("row xx;").x.drawn(0, 1), false);
    }

    private static void promise38Arrange() {
        Stage stage = Stage.of("row bba;up a beside 2>0;");
        stage.x.pay(0, 1);
        Stage.due("HEIGHT then", stage.x.arrange(), 2);
        Stage.due("exchanged", stage.x.seat(1, 0), 0);
        stage.house("row bbaaa;row aaaaa;row aaaaa;row aaaaa;row aaaaa;up a beside 2>0;");
        stage.x.pay(0, 1);
        Stage.due("25 SEATS", stage.x.arrange(), NONE);
        Stage.due("nothing is exchanged", stage.x.seat(1, 0), 1);
    }

    /** The latest arrange() that was not NONE; 0 ahead of any. */
    private static void promise39Arranged() {
        Stage stage = Stage.of("row bba;up a beside 2>0;");
        Stage.due("ahead of any", stage.x.arranged(), 0);
        stage.x.pay(0, 1);
        stage.x.arrange();
        Stage.due("once", stage.x.arranged(), 1);
        stage.house("row aaaaa;".repeat(5));
        stage.x.arrange();
        Stage.due("stays behind NONE", stage.x.arranged(), 1);
        stage.house("row a;");
        stage.x.exchange(0, 0);
        Stage.due("stays behind other calls", stage.x.arranged(), 1);
        stage.x.arrange();
        Stage.due("no time", stage.x.arranged(), 0);
    }

    private static void promise40Image() {
        Stage stage = played();
        String before = stage.told();
        for (int k : others(0, 1)) {
            Stage.due("image " + k, stage.x.image(k), false);
            Stage.due("nothing kept in " + k, stage.x.restore(k), false);
        }
        Stage.due("nothing kept in 0", stage.x.restore(0), false);
        Stage.due("nothing kept in 1", stage.x.restore(1), false);
        Stage.due("image 0", stage.x.image(0), true);
        Stage.due("image 1", stage.x.image(1), true);
        dueRefused("image", stage, before);
        Stage empty = new Stage();
        Stage.due("image of an empty HOUSE", empty.x.image(0), true);
        empty.house("row a;");
        Stage.due("restore it", empty.x.restore(0), true);
        Stage.due("empty again", empty.x.count(0), 0);
    }

    /** The tape, and what other calls told last, stays; false: no such one, or nothing is kept there. */
    private static void promise41Restore() {
        Stage stage = played();
        String before = stage.told();
        for (int k : new int[] {LEAST, -1, 0, 1, 2, MOST}) {
            Stage.due("restore " + k, stage.x.restore(k), false);
        }
        dueRefused("restore", stage, before);
        String kept = held(stage);
        stage.x.image(1);
        Stage.due("still nothing in 0", stage.x.restore(0), false);
        stage.house("row f;carry 9;");
        stage.tape(0).x.worth();
        stage.house("?");
        stage.x.feed(1, 2, 3, 4, 5);
        String last = stage.toldLast();
        Stage.due("restore 1", stage.x.restore(1), true);
        Stage.due("the tape stays", stage.x.count(8), 20);
        Stage.dueSame("what was told last stays", stage.toldLast(), last);
        stage.x.end(3);
        Stage.dueSame("as kept", held(stage), kept);
        stage.x.drawn(5, 3);
        stage.x.exchange(0, 5);
        stage.x.hiss(0, 1);
        Stage.due("restore 1 once more", stage.x.restore(1), true);
        Stage.dueSame("as kept, still", held(stage), kept);
    }

    /** An object is used for at most 512 calls after it has been made: the last is answered as the first. */
    private static void upTo512Calls() {
        HouseClaps x = new HouseClaps();
        x.feed(0x726f7720, 0x61613b00, 0, 0, 0);
        x.end(7);
        Stage.due("call 3", x.house(), 1);
        for (int call = 4; call < 512; call += 2) {
            int is = call / 2 % 2;
            Stage.due("call " + call, x.pay(1, is), true);
            Stage.due("call " + (call + 1), x.many(600, 2), is);
        }
        Stage.due("call 512", x.count(6), 1);
    }

    private static void promise42Count() {
        Stage stage = played();
        stage.cues("at 3 pay 1 0;at 7 hiss 0 0;");
        stage.x.feed(0, 0, 0, 0, 0);
        int[] due = {2, 3, 5, 3, 40, 0, 1, 1, 20, 2};
        for (int what = 0; what < 10; what++) {
            Stage.due("count " + what, stage.x.count(what), due[what]);
        }
        for (int what : others(0, 9)) {
            Stage.due("count " + what, stage.x.count(what), NONE);
        }
        stage.x.many(600, 0);
        Stage.due("PAID ahead of CUES", stage.x.count(6), 1);
        Stage.due("HISSING ahead of CUES", stage.x.count(7), 1);
        HouseClaps full = Stage.of("row aaaaaaaa;".repeat(8) + "carry 64;paid 0;rows;").x;
        int[] fullDue = {8, 8, 64, 64, 0, 1, 0, 0, 0, 0};
        for (int what = 0; what < 10; what++) {
            Stage.due("full count " + what, full.count(what), fullDue[what]);
        }
    }
}
