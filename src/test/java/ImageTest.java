/** Promises 40 and 41: image, restore. */
public final class ImageTest {
    public static void main(String[] args) {
        whole();
        whatStays();
        wrongOnes();
        Stage.close("ImageTest");
    }

    private static void whole() {
        Stage stage = Stage.of("row ab;row xc;up a self < 9;down b held > 1;price 0 3;leaves 1 7;carry 2;paid 5;rows;");
        HouseClaps x = stage.x;
        x.exchange(0, 3);
        x.pay(0, 1);
        x.hiss(1, 1);
        stage.cues("at 3 pay 0 1;at 4 still;");
        int[] before = answers(x);
        Stage.due("image 0", x.image(0), true);
        stage.house("row ffff;up f near 1 > 3;");
        x.pay(3, 1);
        int[] other = answers(x);
        Stage.due("image 1", x.image(1), true);
        Stage.due("restore 0", x.restore(0), true);
        same("restored 0", answers(x), before);
        x.exchange(0, 1);
        x.pay(0, 0);
        x.hiss(1, 0);
        stage.cues("");
        Stage.due("restore 0 again", x.restore(0), true);
        same("restored 0 again", answers(x), before);
        Stage.due("restore 1", x.restore(1), true);
        same("restored 1", answers(x), other);
        x.pay(0, 1);
        int[] third = answers(x);
        x.image(1);
        x.restore(0);
        x.restore(1);
        same("the latest image of a place", answers(x), third);
        x.arrange();
        x.drawn(2, 9);
        x.restore(1);
        same("arranged and drawn are gone", answers(x), third);
    }

    private static int[] answers(HouseClaps x) {
        java.util.List<Integer> all = new java.util.ArrayList<>();
        for (int what = 0; what < 10; what++) {
            all.add(x.count(what));
        }
        for (int s = 0; s < 8; s++) {
            for (int what = 0; what < 5; what++) {
                all.add(x.at(s, 0, 0) < 0 ? -1 : x.seat(s, what));
            }
            for (int t = 0; t < 12; t++) {
                all.add(x.at(s, t, 0));
                all.add(x.at(s, t, 1));
                all.add(x.sees(s, t, 0, 1));
            }
        }
        for (int kind = 0; kind < 6; kind++) {
            all.add(x.law(kind, 0));
            all.add(x.law(kind, 1));
        }
        for (int i = 0; i < x.count(9); i++) {
            all.add(x.cue(i, 0));
            all.add(x.cue(i, 1));
            all.add(x.cue(i, 2));
        }
        return all.stream().mapToInt(Integer::intValue).toArray();
    }

    private static void same(String what, int[] got, int[] want) {
        Stage.due(what, java.util.Arrays.equals(got, want), true);
    }

    private static void whatStays() {
        Stage stage = Stage.of("row ab;up a beside 2 > 0;carry 2;");
        HouseClaps x = stage.x;
        x.image(0);
        stage.house("row ab;up a beside 2 > 0;carry 2;price 0 4;");
        Stage.due("cheapest", stage.tape(0, 1).x.cheapest(), 4);
        stage.tape(1, 0).x.worth();
        stage.tape(1, 0, 1).x.sides();
        stage.tape(3, 2).x.began(0);
        x.pay(0, 1);
        x.arrange();
        stage.house("?");
        x.feed(1, 2, 3, 4, 5);
        x.restore(0);
        Stage.due("the tape stays", x.count(8), 20);
        Stage.due("fault stays", x.fault(), 1);
        Stage.due("bought stays", x.bought(), 2);
        Stage.due("worthOf stays", x.worthOf(0, 0), 3);
        Stage.due("side stays", x.side(2), 1);
        Stage.due("beganAt stays", x.beganAt(1), 1);
        Stage.due("arranged stays", x.arranged(), 1);
        Stage.due("PAID as kept", x.count(6), 0);
        Stage.due("price as kept", x.seat(0, 1), 10);
    }

    private static void wrongOnes() {
        HouseClaps x = new HouseClaps();
        Stage.due("image 2", x.image(2), false);
        Stage.due("image -1", x.image(-1), false);
        Stage.due("restore 0 of none", x.restore(0), false);
        Stage.due("image 1", x.image(1), true);
        Stage.due("restore 0 still of none", x.restore(0), false);
        Stage.due("restore 1", x.restore(1), true);
        Stage.due("restore 2", x.restore(2), false);
        Stage.due("restore -1", x.restore(-1), false);
    }
}
