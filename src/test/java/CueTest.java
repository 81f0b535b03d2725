/** Promises 10 and 11: cues, cue; and what CUES do in a NIGHT. */
public final class CueTest {
    public static void main(String[] args) {
        text();
        limit();
        cue();
        night();
        Stage.close("CueTest");
    }

    private static void text() {
        Stage stage = Stage.of("row axa;row aaa;");
        Stage.due("empty", stage.cues(""), 0);
        Stage.due("one", stage.cues("at 600 pay 1 2;"), 1);
        Stage.due("four", stage.cues("at 0 pay 0 0;at 0 hiss 0 2;at 5 free 1 1;at 5 still;"), 4);
        stage.dueCueFault("ta 0 still;", 1, 0);
        stage.dueCueFault("at 601 still;", 2, 3);
        stage.dueCueFault("at 5 still;at 4 still;", 2, 14);
        stage.dueCueFault("at x still;", 1, 3);
        stage.dueCueFault("at 0 stand;", 1, 5);
        stage.dueCueFault("at 0 still 0 0;", 1, 11);
        stage.dueCueFault("at 0 still", 1, 10);
        stage.dueCueFault("at 0 pay 2 0;", 2, 9);
        stage.dueCueFault("at 0 pay 0 3;", 2, 11);
        stage.dueCueFault("at 0 pay 0 1;", 2, 11);
        stage.dueCueFault("at 0 pay 0;", 1, 10);
        stage.dueCueFault("at 0 free x 0;", 1, 10);
        stage.dueCueFault("at 1000 still;", 1, 3);
        stage.dueCueFault("at 0 still;".repeat(30) + "at", 4, 330);
        stage.dueCueFault("at 0 still;".repeat(30) + ";", 1, 330);
        Stage.due("thirty", stage.cues("at 0 still;".repeat(30)), 30);
        Stage.due("no fault", stage.x.fault(), 0);
        Stage empty = new Stage();
        Stage.due("still in an empty HOUSE", empty.cues("at 0 still;"), 1);
        empty.dueCueFault("at 0 pay 0 0;", 2, 9);
    }

    private static void limit() {
        Stage stage = Stage.of("row a;");
        Stage.due("400 bytes", stage.cues("at 0 still;" + " ".repeat(389)), 1);
        stage.dueCueFault("at 0 still;" + " ".repeat(390), 1, 400);
        stage.dueCueFault(" ".repeat(396) + "at 601;", 2, 399);
        stage.dueCueFault(" ".repeat(396) + "at 600;", 1, 400);
        stage.dueCueFault(" ".repeat(390) + "at", 1, 392);
        stage.dueCueFault("at 0 ?" + " ".repeat(500), 1, 5);
    }

    private static void cue() {
        Stage stage = Stage.of("row axa;row aaa;");
        HouseClaps x = stage.x;
        stage.cues("at 0 pay 0 2;at 3 hiss 1 0;at 3 free 1 2;at 600 still;");
        int[][] due = {{0, 0, 2}, {3, 1, 3}, {3, 2, 5}, {600, 3, -1}};
        for (int i = 0; i < 4; i++) {
            for (int what = 0; what < 3; what++) {
                Stage.due("cue " + i + " " + what, x.cue(i, what), due[i][what]);
            }
        }
        Stage.dueThrows("cue 4", () -> x.cue(4, 0));
        Stage.dueThrows("cue -1", () -> x.cue(-1, 0));
        Stage.dueThrows("cue what 3", () -> x.cue(0, 3));
        Stage.dueThrows("cue what -1", () -> x.cue(0, -1));
        stage.cues("at 1 still;");
        Stage.dueThrows("cue 1 of one", () -> x.cue(1, 0));
    }

    private static void levels(String what, HouseClaps x, int s, int... due) {
        for (int t = 0; t < due.length; t++) {
            Stage.due(what + " of seat " + s + " in moment " + t, x.at(s, t, 0), due[t]);
        }
    }

    private static void night() {
        Stage stage = Stage.of("row ab;up a self < 2;paid 4;");
        HouseClaps x = stage.x;
        stage.cues("at 1 pay 0 1;at 3 hiss 0 1;at 4 pay 0 1;at 5 still;");
        levels("pay and hiss", x, 1, 0, 2, 2, 0, 2, 0, 0);
        levels("still", x, 0, 0, 1, 2, 2, 2, 0, 1, 2);
        stage.cues("at 2 still;at 2 pay 0 0;at 3 free 0 0;");
        levels("PAID ones stand when all are still", x, 0, 0, 1, 2, 2, 2);
        stage.cues("at 0 hiss 0 0;at 2 free 0 0;");
        levels("free", x, 0, 0, 0, 1, 2);
        x.hiss(0, 1);
        stage.cues("at 3 pay 0 0;at 6 still;");
        levels("pay ends HISSING", x, 0, 0, 0, 0, 2, 2, 2, 0, 1, 2);
        stage.cues("at 0 pay 0 1;at 0 hiss 0 1;");
        levels("in order", x, 1, 0, 0);
        stage.cues("at 0 hiss 0 1;at 0 pay 0 1;");
        levels("in order, too", x, 1, 2, 2);
        x.hiss(0, 0);
        stage.cues("at 1 still;at 2 still;at 3 still;at 4 still;at 5 still;at 6 still;");
        levels("alike for long, and yet not for good", x, 0, 0, 0, 0, 0, 0, 0, 0, 1, 2);
        stage.cues("at 0 still;".repeat(29) + "at 9 hiss 0 0;");
        levels("thirty of them", x, 0, 0, 1, 2, 2, 2, 2, 2, 2, 2, 0, 0);
        stage.cues("at 0 hiss 0 1;at 0 pay 0 1;");
        Stage.due("who is PAID ahead of CUES", x.count(6), 0);
        Stage.due("HELD in moment 0", x.at(1, 0, 1), 0);
    }
}
