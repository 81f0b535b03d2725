/** Promises 22 to 29: cheapest, bought, hush, coalitions, worth, worthOf, sides, side. */
public final class HandsTest {
    /** Whoever stands stays; b stands as soon as both a's of its row do. */
    private static final String PAIRS = "row aba;row aba;up b beside 2 = 2;price 1 4;";

    public static void main(String[] args) {
        cheapest();
        cheapestTies();
        notAsTold();
        hush();
        coalitions();
        worth();
        worthBelowNothing();
        sides();
        Stage.close("HandsTest");
    }

    private static void cheapest() {
        Stage stage = Stage.of(PAIRS + "carry 3;");
        HouseClaps x = stage.x;
        Stage.due("bought ahead of any", x.bought(), -1);
        Stage.due("two a's of row 0", stage.tape(0, 2, 3).x.cheapest(), 20);
        Stage.due("bought", x.bought(), 3);
        Stage.due("the cheaper row", stage.tape(0, 2, 3, 5).x.cheapest(), 8);
        Stage.due("bought, of the cheaper row", x.bought(), 12);
        Stage.due("in another order", stage.tape(5, 0, 3, 2).x.cheapest(), 8);
        Stage.due("bought by the tape's order", x.bought(), 5);
        Stage.due("the tape is empty", x.count(8), 0);
        Stage.due("no set", stage.tape(0, 3).x.cheapest(), -1);
        Stage.due("bought stays", x.bought(), 5);
        Stage.due("nobody is PAID by it", x.count(6), 0);
        x.pay(3, 1);
        Stage.due("those PAID already are not in its price", stage.tape(0, 2, 5).x.cheapest(), 4);
        Stage.due("bought besides", x.bought(), 4);
        Stage.due("one that is PAID need not be in the set", stage.tape(3, 5).x.cheapest(), 4);
        Stage.due("and not in the set", x.bought(), 2);
        x.pay(3, 0);
        x.pay(0, 1);
        Stage.due("besides seat 0", stage.tape(2).x.cheapest(), 10);
        x.pay(0, 0);
        x.pay(3, 1);
        x.pay(5, 1);
        Stage.due("carries without", stage.tape(0).x.cheapest(), 0);
        Stage.due("the empty set", x.bought(), 0);
        x.hiss(4, 1);
        Stage.due("with one who HISSES", stage.tape(0, 2).x.cheapest(), 10);
        Stage.due("bought with one who HISSES", x.bought(), 1);
        stage.house(PAIRS + "carry 2;");
        stage.cues("at 9 pay 0 0;");
        Stage.due("CUES are done", stage.tape(0, 5).x.cheapest(), 4);
        Stage.due("bought with CUES", x.bought(), 2);
    }

    private static void cheapestTies() {
        Stage stage = Stage.of("row abb;row abb;price 0 8;price 1 4;up b near 1 > 9;carry 2;");
        Stage.due("like prices: two fewer", stage.tape(3, 4, 5).x.cheapest(), 8);
        Stage.due("then the least set", stage.x.bought(), 3);
        stage.house("row ab;row ab;price 0 8;price 1 4;up b house 2 > 1 or ahead 2 > 0;carry 2;");
        Stage.due("one for 8 or two for 8", stage.tape(2, 3, 1).x.cheapest(), 8);
        Stage.due("the fewest", stage.x.bought(), 4);
        stage.house("row ab;price 0 0;carry 1;");
        Stage.due("for nothing", stage.tape(0, 1).x.cheapest(), 0);
        Stage.due("the fewest for nothing", stage.x.bought(), 1);
    }

    private static void notAsTold() {
        Stage stage = Stage.of("row aaaaaaaa;row aaaaaaax;");
        HouseClaps x = stage.x;
        int[][] wrong = {{}, {0, 1, 2, 3, 4, 5, 6, 7, 8}, {1, 1}, {15}, {16}, {255}, {0, 64}};
        for (int[] tape : wrong) {
            String what = java.util.Arrays.toString(tape);
            Stage.due("cheapest " + what, stage.tape(tape).x.cheapest(), -2);
            Stage.due("hush " + what, stage.tape(tape).x.hush(), -2);
            Stage.due("coalitions " + what, stage.tape(tape).x.coalitions(-1), -2);
            Stage.due("worth " + what, stage.tape(tape).x.worth(), -1);
            Stage.due("the tape is empty " + what, x.count(8), 0);
        }
        Stage.due("bought of none", x.bought(), -1);
        Stage.due("eight", stage.tape(0, 1, 2, 3, 4, 5, 6, 7).x.cheapest(), 10);
        Stage.due("eight hushed", stage.tape(0, 1, 2, 3, 4, 5, 6, 7).x.hush(), 0);
        Stage.due("eight coalitions", stage.tape(0, 1, 2, 3, 4, 5, 6, 7).x.coalitions(-1), 8);
        Stage.due("worth of eight", stage.tape(0, 1, 2, 3, 4, 5, 6, 7).x.worth(), 8);
        Stage.due("of eight each", x.worthOf(7, 0), 1);
        Stage.due("of eight each, below", x.worthOf(7, 1), 1);
    }

    private static void hush() {
        Stage stage = Stage.of("row aaaa;up a beside 2 > 0;carry 2;");
        HouseClaps x = stage.x;
        Stage.due("does not carry anyway", stage.tape(0, 1).x.hush(), 0);
        x.pay(0, 1);
        Stage.due("the one beside", stage.tape(3, 1, 2).x.hush(), 2);
        Stage.due("of like ones the least set", stage.tape(2, 0, 1).x.hush(), 2);
        Stage.due("the PAID one", stage.tape(3, 2, 0).x.hush(), 4);
        Stage.due("no set", stage.tape(2, 3).x.hush(), -1);
        x.pay(3, 1);
        Stage.due("two of them", stage.tape(0, 1, 2).x.hush(), 5);
        stage.house("row aaa;up a beside 2 > 0;carry 2;");
        x.pay(1, 1);
        Stage.due("one ahead of a lesser two", stage.tape(0, 2, 1).x.hush(), 4);
        stage.house("row aaaa;up a beside 2 > 0;carry 3;");
        x.pay(0, 1);
        x.pay(3, 1);
        Stage.due("the fewest", stage.tape(1, 2).x.hush(), 3);
        x.hiss(1, 1);
        Stage.due("besides those that HISS", stage.tape(2).x.hush(), 1);
        Stage.due("HISSING stays", x.count(7), 1);
        stage.cues("at 5 pay 0 1;at 5 pay 0 2;");
        Stage.due("CUES are done", stage.tape(2).x.hush(), -1);
    }

    private static void coalitions() {
        Stage stage = Stage.of(PAIRS + "carry 3;");
        HouseClaps x = stage.x;
        Stage.due("how many", stage.tape(0, 2, 3, 5).x.coalitions(-1), 2);
        Stage.due("first", stage.tape(0, 2, 3, 5).x.coalitions(0), 3);
        Stage.due("second", stage.tape(0, 2, 3, 5).x.coalitions(1), 12);
        stage.house(PAIRS + "up a self > 9;carry 4;");
        Stage.due("four of them", stage.tape(0, 2, 3, 5).x.coalitions(-1), 4);
        int[] four = {7, 11, 13, 14};
        for (int k = 0; k < 4; k++) {
            Stage.due("coalition " + k, stage.tape(0, 2, 3, 5).x.coalitions(k), four[k]);
        }
        Stage.due("coalition 4", stage.tape(0, 2, 3, 5).x.coalitions(4), -1);
        Stage.due("coalition -2", stage.tape(0, 2, 3, 5).x.coalitions(-2), -1);
        Stage.due("none", stage.tape(0, 3).x.coalitions(-1), 0);
        Stage.due("none such", stage.tape(0, 3).x.coalitions(0), -1);
        x.pay(0, 1);
        Stage.due("PAID besides", stage.tape(2, 3, 5).x.coalitions(-1), 3);
        Stage.due("the first besides", stage.tape(2, 3, 5).x.coalitions(0), 3);
        x.pay(2, 1);
        x.pay(3, 1);
        Stage.due("carries without", stage.tape(5, 4).x.coalitions(-1), 1);
        Stage.due("the empty one", stage.tape(5, 4).x.coalitions(0), 0);
        Stage.due("it alone", stage.tape(5, 4).x.coalitions(1), -1);
    }

    private static void worth() {
        Stage stage = Stage.of("row aba;row bbb;up b beside 2 = 2;");
        HouseClaps x = stage.x;
        Stage.dueThrows("ahead of any", () -> x.worthOf(0, 0));
        Stage.due("three of them", stage.tape(0, 2, 3).x.worth(), 4);
        int[][] due = {{3, 2}, {3, 2}, {1, 1}};
        for (int i = 0; i < 3; i++) {
            Stage.due("above " + i, x.worthOf(i, 0), due[i][0]);
            Stage.due("below " + i, x.worthOf(i, 1), due[i][1]);
        }
        Stage.dueThrows("worthOf 3", () -> x.worthOf(3, 0));
        Stage.dueThrows("worthOf -1", () -> x.worthOf(-1, 0));
        Stage.dueThrows("worthOf what 2", () -> x.worthOf(0, 2));
        Stage.dueThrows("worthOf what -1", () -> x.worthOf(0, -1));
        Stage.due("not as told", stage.tape(9).x.worth(), -1);
        Stage.due("the latest stays", x.worthOf(2, 0), 1);
        x.pay(5, 1);
        Stage.due("nobody else PAID", stage.tape(0).x.worth(), 1);
        Stage.due("one alone", x.worthOf(0, 0), 1);
        Stage.dueThrows("fewer now", () -> x.worthOf(1, 0));
        x.hiss(0, 1);
        Stage.due("one who HISSES", stage.tape(0, 2).x.worth(), 1);
        Stage.due("adds nothing", x.worthOf(0, 0), 0);
        Stage.due("0 over 1", x.worthOf(0, 1), 1);
    }

    /** The b's stand only where nobody is PAID. */
    private static void worthBelowNothing() {
        Stage stage = Stage.of("row abbbbb;row abbbbb;up b house 2 = 0 or self = 1;");
        Stage.due("one PAID", stage.tape(0).x.worth(), 1);
        Stage.due("takes those that stand", stage.x.worthOf(0, 0), -9);
        Stage.due("below one", stage.x.worthOf(0, 1), 1);
        Stage.due("both PAID", stage.tape(0, 6).x.worth(), 2);
        Stage.due("half of both", stage.x.worthOf(0, 0), -4);
        Stage.due("half of both, below", stage.x.worthOf(0, 1), 1);
    }

    private static void sides() {
        Stage stage = Stage.of("row aaaaaa;up a beside 2 > 0;");
        HouseClaps x = stage.x;
        Stage.due("side ahead of any", x.side(0), -1);
        Stage.due("side 1 ahead of any", x.side(1), -1);
        Stage.due("one against one", stage.tape(1, 0, 2).x.sides(), 2);
        Stage.due("what the second is sure of", x.side(0), 2);
        Stage.due("two against two", stage.tape(2, 0, 5, 1, 4).x.sides(), 1);
        Stage.due("the least of the greatest", x.side(0), 4);
        Stage.due("with the first told", x.side(1), 0);
        Stage.due("likewise the second", x.side(2), 1);
        Stage.due("the better one", stage.tape(2, 0, 3, 1).x.sides(), 4);
        Stage.due("with seat 3", x.side(1), 3);
        Stage.due("the better hiss", stage.tape(1, 0, 5, 2, 3).x.sides(), 2);
        Stage.due("with seat 2", x.side(2), 2);
        Stage.due("side 3", x.side(3), -1);
        Stage.due("side -1", x.side(-1), -1);
        int[][] wrong = {{}, {0}, {1}, {1, 0}, {0, 1}, {0, 1, 2}, {2, 0, 1}, {1, 0, 0}, {1, 6, 0}, {1, 0, 6},
            {7, 0, 1, 2, 3, 4, 5}, {255, 0, 1}};
        for (int[] tape : wrong) {
            Stage.due("sides " + java.util.Arrays.toString(tape), stage.tape(tape).x.sides(), -1);
            Stage.due("the tape is empty", x.count(8), 0);
        }
        Stage.due("the latest stays", x.side(2), 2);
        x.pay(5, 1);
        Stage.due("PAID besides", stage.tape(1, 0, 1).x.sides(), 5);
        x.hiss(4, 1);
        Stage.due("HISSING besides", stage.tape(1, 0, 1).x.sides(), 2);
        stage.house("row aaaaaaaa;row aaaaaaaa;");
        Stage.due("seven on a side", stage.tape(7, 0, 1, 2, 3, 4, 5, 6, 7).x.sides(), -1);
        Stage.due("seven on the other", stage.tape(1, 0, 1, 2, 3, 4, 5, 6, 7).x.sides(), -1);
        Stage.due("six on both", stage.tape(6, 0, 1, 2, 3, 4, 5, 6, 7, 8, 9, 10, 11).x.sides(), 1);
    }
}
