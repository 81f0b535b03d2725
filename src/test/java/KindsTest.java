/** Promises 33 to 39: exchanged, exchange, starts, leader, drawn, arrange, arranged. */
public final class KindsTest {
    /** Only an a beside one who stands stands up: the b in between keeps them apart. */
    private static final String APART = "row abaa;up a beside 2 > 0;";
    private static final String OF_25 = "row aaaaa;row aaaaa;row aaaaa;row aaaaa;row aaaab;";

    public static void main(String[] args) {
        exchanged();
        exchange();
        starts();
        leader();
        drawn();
        arrange();
        Stage.close("KindsTest");
    }

    private static void exchanged() {
        Stage stage = Stage.of(APART + "carry 3;");
        HouseClaps x = stage.x;
        x.pay(0, 1);
        Stage.due("the b to seat 0", x.exchanged(), 1);
        x.pay(0, 0);
        Stage.due("nobody PAID", x.exchanged(), -1);
        x.pay(1, 1);
        Stage.due("carries as it is", x.exchanged(), -1);
        stage.house(APART + "carry 4;");
        x.pay(3, 1);
        Stage.due("the first two that do", x.exchanged(), 103);
        Stage.due("nothing is exchanged by it", x.seat(1, 0), 1);
        x.pay(3, 0);
        x.pay(2, 1);
        Stage.due("with another one PAID", x.exchanged(), 102);
        stage.house("row aaa;row xbx;up a behind 1 > 0;up b self < 9;carry 3;");
        Stage.due("no two", x.exchanged(), -1);
        stage.house("row aaa;row xbx;up a ahead 1 > 0;up b self < 9;carry 2;");
        Stage.due("a lesser and a greater", x.exchanged(), 104);
        stage.house("row abaaaaaa;row aaaaaaaa;row aaaaaaaa;up a beside 2 > 0;carry 8;");
        x.pay(0, 1);
        Stage.due("24 SEATS", x.exchanged(), 1);
        stage.house(OF_25 + "carry 25;");
        Stage.due("25 SEATS", x.exchanged(), -1);
        Stage.due("an empty HOUSE", new HouseClaps().exchanged(), -1);
    }

    private static void exchange() {
        Stage stage = Stage.of("row abx;row bcx;price 0 1;");
        HouseClaps x = stage.x;
        x.pay(0, 1);
        Stage.due("exchange", x.exchange(0, 4), true);
        Stage.due("kind c", x.seat(0, 0), 2);
        Stage.due("kind a", x.seat(4, 0), 0);
        Stage.due("PAID stays where it was", x.seat(0, 3), 1);
        Stage.due("so does the price", x.seat(0, 1), 1);
        Stage.due("like kinds", x.exchange(1, 3), true);
        Stage.due("one", x.exchange(0, 0), false);
        Stage.due("a pillar", x.exchange(0, 2), false);
        Stage.due("a pillar, too", x.exchange(5, 0), false);
        Stage.due("seat 6", x.exchange(0, 6), false);
        Stage.due("seat -1", x.exchange(-1, 0), false);
        Stage.due("kind c stays", x.seat(0, 0), 2);
        stage.house("row ab;up b self < 9;");
        Stage.due("b stands", x.stands(1), 2);
        x.exchange(1, 0);
        Stage.due("b stands elsewhere", x.stands(0), 2);
        Stage.due("a does not", x.stands(1), -1);
    }

    private static void starts() {
        Stage stage = Stage.of(APART);
        HouseClaps x = stage.x;
        x.pay(0, 1);
        int[] due = {1, 4, 2, 2};
        for (int s = 0; s < 4; s++) {
            Stage.due("starts " + s, x.starts(s), due[s]);
        }
        Stage.due("starts 4", x.starts(4), -1);
        Stage.due("starts -1", x.starts(-1), -1);
        stage.house("row ax;");
        Stage.due("a pillar starts", x.starts(1), -1);
        x.hiss(0, 1);
        Stage.due("one who HISSES", x.starts(0), 0);
        Stage.due("PAID stays", x.count(6), 0);
        stage.house("row aa;");
        stage.cues("at 60 pay 0 1;");
        Stage.due("up to moment 60", x.starts(0), 2);
        stage.cues("at 61 pay 0 1;");
        Stage.due("not in moment 61", x.starts(0), 1);
    }

    private static void leader() {
        Stage stage = Stage.of(APART);
        HouseClaps x = stage.x;
        Stage.due("leader", x.leader(0), 1);
        Stage.due("its STARTS", x.leader(1), 4);
        Stage.due("leader 2", x.leader(2), -1);
        Stage.due("leader -1", x.leader(-1), -1);
        stage.house("row aa;row aa;row aa;price 0 9;price 1 3;price 2 3;");
        Stage.due("the least price, then the first", x.leader(0), 2);
        stage.house("row xx;");
        Stage.due("no SEATS", x.leader(0), -1);
        Stage.due("no SEATS, no STARTS", x.leader(1), -1);
        stage.house("row aa;");
        x.hiss(0, 1);
        x.hiss(1, 1);
        Stage.due("all HISS: the first", x.leader(0), 0);
        Stage.due("STARTS of 0", x.leader(1), 0);
    }

    private static void drawn() {
        Stage stage = Stage.of("row axaaa;row aaaxa;");
        HouseClaps x = stage.x;
        int[] seats = {0, 2, 3, 4, 5, 6, 7, 9};
        for (int seed : new int[] {0, 1, -1, 77, Integer.MIN_VALUE, Integer.MAX_VALUE}) {
            for (int n = 1; n <= 8; n++) {
                x.pay(9, 1);
                Stage.due("drawn " + n, x.drawn(n, seed), true);
                java.util.List<Integer> left = new java.util.ArrayList<>();
                for (int s : seats) {
                    left.add(s);
                }
                int state = seed;
                for (int i = 0; i < n; i++) {
                    state = state * 1103515245 + 12345;
                    left.remove((state >>> 8) % left.size());
                }
                for (int s : seats) {
                    Stage.due("seed " + seed + ", " + n + " of them, seat " + s, x.seat(s, 3), left.contains(s) ? 0 : 1);
                }
            }
        }
        x.drawn(8, 5);
        Stage.due("all stand", x.many(0, 2), 8);
        x.drawn(3, 5);
        Stage.due("three stand", x.many(0, 2), 3);
        Stage.due("none", x.drawn(0, 5), false);
        Stage.due("-1", x.drawn(-1, 5), false);
        Stage.due("9 of 8", x.drawn(9, 5), false);
        Stage.due("three stay PAID", x.count(6), 3);
        Stage.due("of an empty HOUSE", new HouseClaps().drawn(1, 1), false);
    }

    private static void arrange() {
        Stage stage = Stage.of(APART + "carry 4;");
        HouseClaps x = stage.x;
        Stage.due("arranged ahead of any", x.arranged(), 0);
        x.pay(0, 1);
        Stage.due("height then", x.arrange(), 4);
        Stage.due("once", x.arranged(), 1);
        Stage.due("seat 0 is b", x.seat(0, 0), 1);
        Stage.due("seat 1 is a", x.seat(1, 0), 0);
        Stage.due("carries now", x.carries(0), 1);
        Stage.due("again: nothing to do", x.arrange(), 4);
        Stage.due("no times", x.arranged(), 0);
        stage.house("row abab;row cacc;up a beside 2 > 0;");
        x.pay(3, 1);
        Stage.due("step by step", x.arrange(), 4);
        Stage.due("twice", x.arranged(), 2);
        Stage.due("an a from row 1 came to seat 0", x.seat(0, 0), 0);
        Stage.due("a b went there", x.seat(5, 0), 1);
        stage.house(OF_25);
        Stage.due("25 SEATS", x.arrange(), -1);
        Stage.due("times stay", x.arranged(), 2);
        Stage.due("an empty HOUSE", new HouseClaps().arrange(), 0);
    }
}
