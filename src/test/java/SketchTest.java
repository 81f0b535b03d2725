/** Promises 30 to 32: began, beganAt, parts. */
public final class SketchTest {
    public static void main(String[] args) {
        began();
        order();
        wrongOnes();
        parts();
        Stage.close("SketchTest");
    }

    private static void began() {
        Stage stage = Stage.of("row axa;row aaa;up a beside 2 > 0;");
        HouseClaps x = stage.x;
        Stage.due("ahead of any", x.beganAt(0), -1);
        Stage.due("at 0: seat 0 alone", stage.tape(2, 3, 0, 0, 0, 0).x.began(0), 1);
        Stage.due("its first", x.beganAt(0), 0);
        Stage.due("no second", x.beganAt(1), -1);
        Stage.due("at 1: seat 3 or 5 or both stood", stage.tape(0, 9, 0, 3, 1, 3).x.began(1), 3);
        Stage.due("the first of them", x.beganAt(0), 3);
        Stage.due("one alone ahead of two", x.beganAt(1), -1);
        Stage.due("nothing seen", stage.tape(3, 3, 3, 3, 3, 3).x.began(60), 15);
        Stage.due("no set", stage.tape(0, 0, 0, 0, 0, 0).x.began(0), 0);
        Stage.due("none of no set", x.beganAt(0), -1);
        Stage.due("nor a second", x.beganAt(1), -1);
        x.pay(0, 1);
        Stage.due("nobody else PAID", stage.tape(0, 3, 2, 0, 0, 0).x.began(0), 1);
        x.hiss(2, 1);
        Stage.due("HISSING as it is", stage.tape(0, 3, 2, 0, 0, 0).x.began(0), 0);
        Stage.due("one who HISSES is among the sets", stage.tape(2, 3, 0, 0, 0, 0).x.began(0), 2);
        Stage.due("its second", x.beganAt(1), -1);
        stage.cues("at 1 pay 0 0;");
        Stage.due("CUES are done", stage.tape(2, 0, 3, 1, 2, 1).x.began(1), 3);
        Stage.due("the first with CUES", x.beganAt(0), 0);
        Stage.due("the second with CUES", x.beganAt(1), 4);
        Stage.due("beganAt 2", x.beganAt(2), -1);
        Stage.due("beganAt -1", x.beganAt(-1), -1);
        Stage.due("the tape is empty", x.count(8), 0);
    }

    private static void order() {
        Stage stage = Stage.of("row aaa;");
        Stage.due("seat 1 stood", stage.tape(3, 2, 3).x.began(0), 3);
        Stage.due("by the lesser SEAT", stage.x.beganAt(0), 0);
        Stage.due("with its other", stage.x.beganAt(1), 1);
        Stage.due("an empty HOUSE", new Stage().x.began(0), 0);
    }

    private static void wrongOnes() {
        Stage stage = Stage.of("row ax;row aa;");
        HouseClaps x = stage.x;
        Stage.due("good", stage.tape(2, 0, 3, 3).x.began(0), 3);
        Stage.due("too short", stage.tape(2, 0, 3).x.began(0), -1);
        Stage.due("too long", stage.tape(2, 0, 3, 3, 3).x.began(0), -1);
        Stage.due("a 4", stage.tape(4, 0, 3, 3).x.began(0), -1);
        Stage.due("moment 61", stage.tape(2, 0, 3, 3).x.began(61), -1);
        Stage.due("the tape is empty then, too", x.count(8), 0);
        Stage.due("moment -1", stage.tape(2, 0, 3, 3).x.began(-1), -1);
        Stage.due("a pillar is of no matter", stage.tape(2, 7, 3, 3).x.began(0), 3);
        Stage.due("the latest good one", x.beganAt(0), 0);
        stage.house("row aaaaa;row aaaaa;row aaaaa;row aaaaa;row aaaaa;");
        int[] all = new int[25];
        java.util.Arrays.fill(all, 3);
        Stage.due("25 SEATS", stage.tape(all).x.began(0), -1);
        stage.house("row aaaaa;row aaaaa;row axaaa;row aaaaa;row aaaaa;");
        Stage.due("24 SEATS", stage.tape(all).x.began(0), 24 * 25 / 2);
    }

    private static void parts() {
        Stage stage = Stage.of("row axa;row aaa;up a beside 2 > 0;leaves 0 0;");
        HouseClaps x = stage.x;
        Stage.due("at once", x.parts(3, 5), 0);
        Stage.due("one that left and one that did not", x.parts(0, 5), 0);
        Stage.due("both left", x.parts(0, 2), -1);
        Stage.due("one and the same", x.parts(3, 3), -1);
        Stage.due("a pillar", x.parts(1, 3), -1);
        Stage.due("a pillar, too", x.parts(3, 1), -1);
        Stage.due("seat 6", x.parts(3, 6), -1);
        Stage.due("seat -1", x.parts(-1, 3), -1);
        x.pay(4, 1);
        Stage.due("nobody else PAID", x.parts(4, 3), 0);
        x.hiss(3, 1);
        x.hiss(4, 1);
        Stage.due("both HISS", x.parts(3, 4), -1);
    }
}
