/** Promises 12 to 16: sees, at, many, would, stands. */
public final class NightTest {
    public static void main(String[] args) {
        sees();
        seesEach();
        signsAndJoins();
        ownLevelAndHeld();
        deepest();
        upAheadOfDown();
        held();
        rowByRow();
        leaves();
        paidUntil();
        manyAndStands();
        would();
        wrongOnes();
        Stage.close("NightTest");
    }

    /** Everybody PAID on a stage of 5 rows of 7, a pillar in the middle of row 3. */
    private static void sees() {
        Stage stage = Stage.of("row aaaaaaa;row aaaaaaa;row aaaaaaa;row aaaxaaa;row aaaaaaa;carry 1;");
        HouseClaps x = stage.x;
        x.drawn(34, 5);
        Stage.due("all", x.count(6), 34);
        int middle = 2 * 7 + 3;
        int[] due = {7, 1, 2, 0, 8, 33};
        for (int area = 0; area < 6; area++) {
            Stage.due("area " + area, x.sees(middle, 0, area, 2), due[area]);
        }
        Stage.due("seen from row 3", x.sees(3 * 7 + 2, 0, 4, 1), 3 + 5 + 6);
        Stage.due("seen from the middle of row 4: a pillar ahead", x.sees(4 * 7 + 3, 0, 4, 1), 0);
        Stage.due("seen beside it: the three rows before, less the pillar", x.sees(4 * 7 + 2, 0, 4, 1), 2 + 5 + 6);
        Stage.due("seen from a corner", x.sees(4 * 7, 0, 4, 1), 2 + 3 + 4);
        Stage.due("seen from row 0", x.sees(3, 0, 4, 1), 0);
        Stage.due("near in a corner", x.sees(0, 0, 0, 1), 3);
        Stage.due("ahead of row 0", x.sees(0, 0, 1, 1), 0);
        Stage.due("beside at the left wall", x.sees(7, 0, 2, 1), 1);
        Stage.due("beside at the right wall", x.sees(13, 0, 2, 1), 1);
        Stage.due("behind the last row", x.sees(34, 0, 3, 1), 0);
        Stage.due("behind row 0", x.sees(0, 0, 3, 1), 1);
        Stage.due("beside the pillar", x.sees(3 * 7 + 2, 0, 2, 1), 1);
        Stage.due("area 6", x.sees(0, 0, 6, 1), -1);
        Stage.due("area -1", x.sees(0, 0, -1, 1), -1);
        Stage.due("level 0", x.sees(0, 0, 0, 0), -1);
        Stage.due("level 3", x.sees(0, 0, 0, 3), -1);
        Stage.due("a pillar sees", x.sees(3 * 7 + 3, 0, 0, 1), -1);
        Stage.due("moment 601", x.sees(0, 601, 0, 1), -1);
        Stage.due("moment -1", x.sees(0, -1, 0, 1), -1);
        Stage.due("moment 600", x.sees(0, 600, 0, 1), 3);
        Stage claps = Stage.of("row ab;up a self < 1;");
        Stage.due("claps are LEVEL 1", claps.x.sees(1, 1, 5, 1), 1);
        Stage.due("claps are not LEVEL 2", claps.x.sees(1, 1, 5, 2), 0);
    }

    /** Each seat of 5 rows of 6, with three pillars, and who perceives it if it alone stands. */
    private static void seesEach() {
        String cells = "aaaaxa" + "aaxaaa" + "aaaaaa" + "xaaaaa" + "aaaaaa";
        int columns = 6;
        Stage stage = new Stage();
        for (int t = 0; t < cells.length(); t++) {
            if (cells.charAt(t) == 'x') {
                continue;
            }
            stage.house("row aaaaxa;row aaxaaa;row aaaaaa;row xaaaaa;row aaaaaa;");
            stage.x.pay(t, 1);
            for (int s = 0; s < cells.length(); s++) {
                if (cells.charAt(s) != 'x') {
                    int down = t / columns - s / columns;
                    int away = Math.abs(t % columns - s % columns);
                    boolean clear = s >= columns && cells.charAt(s - columns) != 'x';
                    boolean[] due = {s != t && Math.abs(down) < 2 && away < 2, down == -1 && away == 0, down == 0 && away == 1,
                        down == 1 && away == 0, clear && down < 0 && down > -4 && away <= -down, s != t};
                    for (int area = 0; area < 6; area++) {
                        Stage.due(s + " perceives " + t + " in area " + area, stage.x.sees(s, 0, area, 1), due[area] ? 1 : 0);
                    }
                }
            }
        }
    }

    /** In moment 1 seat 0 claps, if the law holds for one still seat beside two that stand. */
    private static void holds(String cond, int due) {
        Stage stage = Stage.of("row abc;up a " + cond + ";");
        stage.x.pay(1, 1);
        stage.x.pay(2, 1);
        Stage.due(cond, stage.x.at(0, 1, 0), due);
        Stage.due("would " + cond, stage.x.would(0, 0, 0), due);
        stage.house("row abc;up b self > 9;down a " + cond + ";");
        stage.x.pay(1, 1);
        stage.x.pay(2, 1);
        Stage.due("would down " + cond, stage.x.would(0, 0, 1), due);
    }

    private static void signsAndJoins() {
        holds("house 2 > 1", 1);
        holds("house 2 > 2", 0);
        holds("house 2 = 2", 1);
        holds("house 2 = 1", 0);
        holds("house 2 < 3", 1);
        holds("house 2 < 2", 0);
        holds("house 2 < 0", 0);
        holds("house 1 > 999", 0);
        holds("beside 2 = 1", 1);
        holds("near 1 = 1", 1);
        holds("self = 0", 1);
        holds("self < 1", 1);
        holds("self > 0", 0);
        holds("held = 0", 1);
        holds("held < 4", 1);
        holds("held > 3", 0);
        holds("not self = 0", 0);
        holds("not not self = 0", 1);
        holds("self = 1 or self = 0", 1);
        holds("self = 0 and self = 1", 0);
        holds("self = 0 or self = 0 and self = 1", 1);
        holds("(self = 0 or self = 0) and self = 1", 0);
        holds("self = 1 and self = 0 or self = 0", 1);
        holds("self = 1 and (self = 0 or self = 0)", 0);
        holds("not self = 1 and self = 0", 1);
        holds("not (self = 1 or self = 0)", 0);
        holds("not self = 0 or self = 0", 1);
    }

    /** A PAID seat has LEVEL 2 and is HELD t moments. */
    private static void ownLevelAndHeld() {
        for (int n = 0; n < 5; n++) {
            Stage stage = Stage.of("row abc;up a self < " + n + ";down a self = " + n + ";up b held < " + n
                + ";down b held = " + n + ";down c self > " + n + ";");
            stage.x.pay(0, 1);
            Stage.due("2 < " + n, stage.x.would(0, 5, 0), 2 < n ? 1 : 0);
            Stage.due("2 = " + n, stage.x.would(0, 5, 1), 2 == n ? 1 : 0);
            Stage.due("0 > " + n, stage.x.would(2, 5, 1), 0);
            stage.x.pay(1, 1);
            stage.x.pay(2, 1);
            Stage.due("2 > " + n, stage.x.would(2, 5, 1), 2 > n ? 1 : 0);
            for (int t = 0; t < 6; t++) {
                Stage.due(t + " held < " + n, stage.x.would(1, t, 0), Math.min(3, t) < n ? 1 : 0);
                Stage.due(t + " held = " + n, stage.x.would(1, t, 1), Math.min(3, t) == n ? 1 : 0);
            }
            compared("self = " + n, 1 == n);
            compared("self < " + n, 1 < n);
            compared("self > " + n, 1 > n);
        }
    }

    /** Whether a law holds for a seat that claps. */
    private static void compared(String one, boolean due) {
        Stage seat = Stage.of("row a;up a self = 0;down a " + one + ";");
        Stage.due("would of one who claps: " + one, seat.x.would(0, 1, 1), due ? 1 : 0);
    }

    private static void deepest() {
        holds("not ".repeat(7) + "self = 0", 0);
        holds("not ".repeat(7) + "self = 1", 1);
        holds("(".repeat(7) + "self = 0" + ")".repeat(7), 1);
        holds("(".repeat(7) + "self = 1 or self = 0" + ")".repeat(7), 1);
        holds("(".repeat(7) + "self = 1" + ")".repeat(7), 0);
        holds("self = 1" + " or self = 1".repeat(18) + " or self = 0", 1);
        holds("self = 0" + " and self = 0".repeat(18) + " and self = 1", 0);
        holds("(".repeat(7) + "self = 1) or self = 0) and self = 1) or self = 0) and self = 1) or self = 0) and self = 0)", 1);
        Stage stage = Stage.of("row f;up f self > 9;down f self = 2" + " and self = 2".repeat(19) + ";paid 0;");
        stage.x.pay(0, 1);
        levels("the last law's last ONE", stage.x, 0, 0, 2, 1, 1);
    }

    private static void levels(String what, HouseClaps x, int s, int of, int... due) {
        for (int t = 0; t < due.length; t++) {
            Stage.due(what + " of seat " + s + " in moment " + t, x.at(s, t, of), due[t]);
        }
    }

    private static void upAheadOfDown() {
        HouseClaps x = Stage.of("row a;up a held = 0;down a self > 0;").x;
        levels("up ahead of down", x, 0, 0, 0, 1, 2, 2, 1, 2, 2, 1);
        HouseClaps y = Stage.of("row a;down a self < 9;").x;
        levels("no less than still", y, 0, 0, 0, 0, 0);
        levels("HELD of the still", y, 0, 1, 0, 1, 2, 3, 3);
        HouseClaps z = Stage.of("row a;down a self > 0;paid 0;").x;
        z.pay(0, 1);
        levels("down one by one", z, 0, 0, 2, 1, 0, 0);
    }

    private static void held() {
        HouseClaps x = Stage.of("row a;up a held > 2;down a held > 1;").x;
        levels("HELD in a law", x, 0, 0, 0, 0, 0, 0, 1, 1, 1, 0, 0, 0, 0, 1);
        levels("HELD", x, 0, 1, 0, 1, 2, 3, 0, 1, 2, 0, 1, 2, 3, 0);
    }

    private static void rowByRow() {
        String house = "row a;row a;row a;up a ahead 1 > 0;";
        HouseClaps x = Stage.of(house).x;
        x.pay(0, 1);
        levels("all at once", x, 2, 0, 0, 0, 1, 2);
        HouseClaps y = Stage.of(house + "rows;").x;
        y.pay(0, 1);
        levels("row by row", y, 2, 0, 0, 1, 2);
        HouseClaps z = Stage.of("row aa;row ab;up a behind 1 > 0 or beside 1 > 0;up b house 1 = 2;rows;").x;
        z.pay(0, 1);
        levels("rows behind by the moment before", z, 0, 0, 2, 2);
        levels("the same row by the moment before", z, 1, 0, 0, 1, 2);
        levels("rows ahead by this moment, its own by the one before", z, 3, 0, 0, 1, 2, 2);
        levels("its own row by the moment before", z, 2, 0, 0, 0, 1, 2);
    }

    private static void leaves() {
        HouseClaps x = Stage.of("row aa;row ab;up a self < 9;leaves 0 3;leaves 1 0;").x;
        x.pay(0, 1);
        x.pay(3, 1);
        levels("a PAID one leaves", x, 0, 0, 2, 2, 2, 0, 0);
        levels("leaves at 3", x, 1, 0, 0, 1, 2, 0, 0);
        levels("leaves at 0", x, 2, 0, 0, 0, 0);
        levels("PAID and left at 0", x, 3, 0, 0, 0, 0);
        levels("HELD behind leaving", x, 1, 1, 0, 0, 0, 0, 1, 2, 3, 3);
    }

    private static void paidUntil() {
        HouseClaps x = Stage.of("row ab;down a self > 0;up b beside 2 > 0;paid 2;").x;
        x.pay(0, 1);
        levels("PAID up to 2", x, 0, 0, 2, 2, 2, 1, 0, 0);
        levels("HELD of a PAID one", x, 0, 1, 0, 1, 2, 0, 0, 1);
        levels("beside it", x, 1, 0, 0, 1, 2, 2, 2);
        x.hiss(1, 1);
        levels("HISSING is still", x, 1, 0, 0, 0, 0);
        levels("HELD of one who HISSES", x, 1, 1, 0, 1, 2, 3, 3);
    }

    private static void manyAndStands() {
        HouseClaps x = Stage.of("row axaa;up a beside 1 > 0;").x;
        x.pay(2, 1);
        Stage.due("many 0", x.many(0, 0), 3);
        Stage.due("many 1 at 0", x.many(0, 1), 1);
        Stage.due("many 1 at 1", x.many(1, 1), 2);
        Stage.due("many 2 at 1", x.many(1, 2), 1);
        Stage.due("many 2 at 600", x.many(600, 2), 2);
        Stage.due("many at 601", x.many(601, 2), -1);
        Stage.due("many at -1", x.many(-1, 2), -1);
        Stage.due("many 3", x.many(0, 3), -1);
        Stage.due("many -1", x.many(0, -1), -1);
        Stage.due("stands never", x.stands(0), -1);
        Stage.due("a pillar stands", x.stands(1), -1);
        Stage.due("stands at 0", x.stands(2), 0);
        Stage.due("stands at 2", x.stands(3), 2);
        Stage.due("stands 4", x.stands(4), -1);
        Stage late = Stage.of("row a;");
        late.cues("at 600 pay 0 0;");
        Stage.due("stands at 600", late.x.stands(0), 600);
        Stage.due("up at 600", late.x.up(), 600);
        Stage.due("calls to 599", late.x.calls(599), 0);
        Stage.due("calls to 600", late.x.calls(600), 1);
    }

    private static void would() {
        Stage stage = Stage.of("row a;row a;up a ahead 1 = 1;rows;");
        HouseClaps x = stage.x;
        x.pay(0, 1);
        Stage.due("would of moment 0", x.would(1, 0, 0), 1);
        Stage.due("would of row 0", x.would(0, 0, 0), 0);
        Stage.due("would down, not told", x.would(0, 0, 1), -1);
        Stage.due("would 2", x.would(0, 0, 2), -1);
        Stage.due("would -1", x.would(0, 0, -1), -1);
        Stage.due("would at 601", x.would(0, 601, 0), -1);
        Stage.due("would at -1", x.would(0, -1, 0), -1);
        Stage.due("would of 2", x.would(2, 0, 0), -1);
        stage.cues("at 600 hiss 0 0;");
        Stage.due("would at 599", x.would(1, 599, 0), 1);
        Stage.due("would at 600, by that moment's own rows", x.would(1, 600, 0), 0);
        HouseClaps y = Stage.of("row a;up a self = 1 and held = 0;down a held = 3;").x;
        Stage.due("held by the moment", y.would(0, 3, 1), 1);
        Stage.due("held by a moment ahead of it", y.would(0, 2, 1), 0);
        y.pay(0, 1);
        Stage.due("would of a PAID one", y.would(0, 3, 1), 1);
    }

    private static void wrongOnes() {
        HouseClaps x = Stage.of("row ax;").x;
        Stage.due("at a pillar", x.at(1, 0, 0), -1);
        Stage.due("at 2", x.at(2, 0, 0), -1);
        Stage.due("at -1", x.at(-1, 0, 0), -1);
        Stage.due("at moment 601", x.at(0, 601, 0), -1);
        Stage.due("at moment -1", x.at(0, -1, 0), -1);
        Stage.due("at what 2", x.at(0, 0, 2), -1);
        Stage.due("at what -1", x.at(0, 0, -1), -1);
        Stage.due("at moment 600", x.at(0, 600, 1), 3);
    }
}
