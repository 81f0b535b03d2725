import java.util.Arrays;

/** Each boundary that the Terms name of CARRIES, HEIGHT and of what is tried: a test a sentence. */
public final class TrialEdgesTest {
    private static final int NONE = HouseClaps.NONE;
    private static final int[] EIGHT = {0, 1, 2, 3, 4, 5, 6, 7};
    private static final int[] NINE = {0, 1, 2, 3, 4, 5, 6, 7, 8};
    private static final String OF_24 = "row aaaaaaaa;row aaaaaaaa;row aaaaaaab;";
    private static final String OF_25 = "row aaaaa;row aaaaa;row aaaaa;row aaaaa;row aaaab;";
    /** 24 SEATS among 64 cells. */
    private static final String SPARSE = "row axaxaxxx;".repeat(8);

    public static void main(String[] args) {
        carriesInMoments0To60();
        heightTheMostInOneMoment();
        whoClapsDoesNotStand();
        cheapestOf1To8();
        cheapestBesidesThoseThatArePaid();
        cheapestFewestThenLeast();
        cheapestDearest();
        worthOf1To8();
        worthNobodyElsePaid();
        worthOfAllOrders();
        hushOf1To8();
        hushBesidesThoseThatDo();
        hushFewestThenLeast();
        coalitionsOf1To8();
        coalitionsNoPartOfWhichDoes();
        coalitionsTheEmptyOneAlone();
        sidesOf1To6();
        sidesAllUnlike();
        sidesSureOf();
        sidesOfAFullHouse();
        sketchOfAllSeatsAndPillars();
        sketchOf0To3();
        sketchPillarsOfNoMatter();
        sketchOfMoments0To60();
        beganSetsOfOneOrTwo();
        beganHissingAsItIs();
        beganHousesOf24();
        partsInMoments0To60();
        anywayInBothNights();
        leaderLeastPriceThenFirst();
        drawnWrapping();
        drawnOfThoseNotYetDrawn();
        drawnNobodyElse();
        arrangedTheFirstTwo();
        arrangedTwentyTimesAtMost();
        arrangedHousesOf24();
        exchangedTheFirstTwo();
        exchangedUnlikeKinds();
        exchangedHousesOf24();
        startsOneSeatPaid();
        cuesInEachNight();
        newHouse();
        throwingChangesNothing();
        Stage.close("TrialEdgesTest");
    }

    private static void carriesInMoments0To60() {
        Stage stage = Stage.of("row a;paid 0;down a self>0;");
        stage.x.pay(0, 1);
        Stage.due("in moment 0 alone", stage.x.carries(0), 1);
        stage.house("row a;");
        stage.cues("at 60 pay 0 0;");
        Stage.due("in 60", stage.x.carries(0), 1);
        Stage.due("HEIGHT in 60", stage.x.carries(1), 1);
        stage.cues("at 61 pay 0 0;");
        Stage.due("in 61", stage.x.carries(0), 0);
        Stage.due("no HEIGHT in 61", stage.x.carries(1), 0);
        stage.house("row ab;carry 2;");
        stage.x.pay(0, 1);
        Stage.due("one less than 'carry'", stage.x.carries(0), 0);
        stage.x.pay(1, 1);
        Stage.due("'carry'", stage.x.carries(0), 1);
    }

    private static void heightTheMostInOneMoment() {
        Stage stage = Stage.of("row aaa;carry 3;");
        stage.cues("at 0 pay 0 0;at 1 hiss 0 0;at 1 pay 0 1;at 2 pay 0 2;at 3 hiss 0 1;at 3 hiss 0 2;");
        Stage.due("one, two, none: two", stage.x.carries(1), 2);
        Stage.due("all three, but one by one", stage.x.carries(0), 0);
        Stage.due("HEIGHT of an empty HOUSE", new HouseClaps().carries(1), 0);
    }

    /** The most that stand: who claps is none of them, whoever asks. */
    private static void whoClapsDoesNotStand() {
        Stage stage = Stage.of("row abbb;up b self<1;carry 2;");
        stage.x.pay(0, 1);
        Stage.due("all clap or stand", stage.x.many(1, 1), 4);
        Stage.due("HEIGHT", stage.x.carries(1), 1);
        Stage.due("CARRIES", stage.x.carries(0), 0);
        Stage.due("STARTS", stage.x.starts(0), 1);
        Stage.due("LEADER's STARTS", stage.x.leader(1), 1);
        Stage.due("WORTH", stage.tape(0, 1).x.worth(), 2);
        Stage.due("CHEAPEST", stage.tape(1, 2).x.cheapest(), 10);
        Stage.due("HUSH", stage.tape(0, 1).x.hush(), 0);
        Stage.due("COALITIONS", stage.tape(1, 2).x.coalitions(NONE), 2);
        Stage.due("SIDES", stage.tape(1, 1, 2).x.sides(), 2);
        Stage.due("EXCHANGED", stage.x.exchanged(), NONE);
        Stage.due("ARRANGED", stage.x.arrange(), 1);
    }

    private static void cheapestOf1To8() {
        Stage stage = Stage.of("row aaaaaaaa;row aaaaaaaa;");
        Stage.due("none", stage.tape().x.cheapest(), -2);
        Stage.due("one", stage.tape(15).x.cheapest(), 10);
        Stage.due("eight", stage.tape(EIGHT).x.cheapest(), 10);
        Stage.due("nine", stage.tape(NINE).x.cheapest(), -2);
        Stage.due("940 bytes", stage.tape(new int[940]).x.cheapest(), -2);
        Stage.due("two alike", stage.tape(3, 4, 3).x.cheapest(), -2);
        Stage.due("SEAT 16", stage.tape(0, 16).x.cheapest(), -2);
        Stage.due("SEAT 255", stage.tape(255).x.cheapest(), -2);
    }

    private static void cheapestBesidesThoseThatArePaid() {
        Stage stage = Stage.of("row aaa;row aaa;price 0 7;price 1 5;carry 2;");
        stage.x.pay(0, 1);
        Stage.due("one more", stage.tape(1, 2).x.cheapest(), 7);
        Stage.due("the PAID one is of no help", stage.tape(0, 1).x.cheapest(), 7);
        Stage.due("and not in the set", stage.x.bought(), 2);
        Stage.due("the PAID one alone", stage.tape(0).x.cheapest(), NONE);
        stage.x.pay(1, 1);
        Stage.due("the empty set for nothing", stage.tape(0, 1, 2).x.cheapest(), 0);
        Stage.due("the empty set", stage.x.bought(), 0);
        stage.x.hiss(1, 1);
        Stage.due("PAID, but HISSING", stage.tape(1, 3).x.cheapest(), 5);
        Stage.due("PAID, but HISSING: the other one", stage.x.bought(), 2);
    }

    /** Of like ones the fewest, then the least set (as bits by their order). */
    private static void cheapestFewestThenLeast() {
        Stage stage = Stage.of("row a;row b;row c;price 0 5;price 1 5;price 2 10;"
            + "up c behind 1>0;up a behind 2>0;up b ahead 2>0;carry 2;");
        Stage.due("5 and 5, in the order told", stage.tape(0, 1).x.cheapest(), 5);
        Stage.due("the least of like ones", stage.x.bought(), 1);
        Stage.due("the other order", stage.tape(1, 0).x.cheapest(), 5);
        Stage.due("the least by their order", stage.x.bought(), 1);
        stage.house("row aab;row xxc;price 0 5;price 1 10;up b behind 2>0;carry 2;");
        Stage.due("two for 5 each or one for 10", stage.tape(0, 1, 5).x.cheapest(), 10);
        Stage.due("the one", stage.x.bought(), 4);
        stage.house("row aab;row xxc;price 0 5;price 1 11;up b behind 2>0;carry 2;");
        Stage.due("two for less than one", stage.tape(0, 1, 5).x.cheapest(), 10);
        Stage.due("the two", stage.x.bought(), 3);
        Stage.due("two for less than one, told behind it", stage.tape(5, 0, 1).x.cheapest(), 10);
        Stage.due("the two behind it", stage.x.bought(), 6);
        stage.house("row aaa;price 0 0;carry 2;");
        Stage.due("all for nothing", stage.tape(0, 1, 2).x.cheapest(), 0);
        Stage.due("the fewest for nothing, and the least", stage.x.bought(), 3);
    }

    private static void cheapestDearest() {
        Stage stage = Stage.of("row aaaaaaaa;price 0 999;carry 8;");
        Stage.due("eight for 999 each", stage.tape(EIGHT).x.cheapest(), 8 * 999);
        Stage.due("all bits", stage.x.bought(), 255);
        Stage.due("seven do not", stage.tape(0, 1, 2, 3, 4, 5, 6).x.cheapest(), NONE);
        Stage.due("the latest stays", stage.x.bought(), 255);
    }

    private static void worthOf1To8() {
        Stage stage = Stage.of("row aaaaaaaa;row aaaaaaaa;");
        Stage.due("none", stage.tape().x.worth(), NONE);
        Stage.due("one", stage.tape(15).x.worth(), 1);
        Stage.due("eight", stage.tape(EIGHT).x.worth(), 8);
        Stage.due("nine", stage.tape(NINE).x.worth(), NONE);
        Stage.due("two alike", stage.tape(2, 2).x.worth(), NONE);
        Stage.due("SEAT 16", stage.tape(16).x.worth(), NONE);
        Stage.due("SEAT 64", stage.tape(64).x.worth(), NONE);
    }

    private static void worthNobodyElsePaid() {
        Stage stage = Stage.of("row aaa;");
        stage.x.pay(2, 1);
        Stage.due("nobody else", stage.tape(0, 1).x.worth(), 2);
        Stage.due("but one who is PAID anyway", stage.tape(2).x.worth(), 1);
        Stage.due("adds one", stage.x.worthOf(0, 0), 1);
        Stage.due("and stays PAID", stage.x.count(6), 1);
    }

    /** Nine stand, if all eight hands do: 9 over 8 for each. */
    private static void worthOfAllOrders() {
        Stage stage = Stage.of("row aaaaaaaa;row bxxxxxxx;up b house 2>7;");
        Stage.due("HEIGHT of all", stage.tape(EIGHT).x.worth(), 9);
        for (int i = 0; i < 8; i++) {
            Stage.due("above of " + i, stage.x.worthOf(i, 0), 9);
            Stage.due("below of " + i, stage.x.worthOf(i, 1), 8);
        }
        stage.house("row aba;row bbb;up b beside 2=2;");
        stage.tape(4, 2, 0).x.worth();
        int[][] due = {{1, 1}, {3, 2}, {3, 2}};
        for (int i = 0; i < 3; i++) {
            Stage.due("above in the order told " + i, stage.x.worthOf(i, 0), due[i][0]);
            Stage.due("below in the order told " + i, stage.x.worthOf(i, 1), due[i][1]);
        }
        stage.house("row ab;up b house 2=0 or self=1;");
        stage.tape(0).x.worth();
        Stage.due("adds nothing: above", stage.x.worthOf(0, 0), 0);
        Stage.due("adds nothing: below", stage.x.worthOf(0, 1), 1);
        stage.house("row abb;up b house 2=0 or self=1;");
        stage.tape(0).x.worth();
        Stage.due("less than nothing: above", stage.x.worthOf(0, 0), -1);
        Stage.due("less than nothing: below", stage.x.worthOf(0, 1), 1);
    }

    private static void hushOf1To8() {
        Stage stage = Stage.of("row aaaaaaaa;row aaaaaaaa;");
        stage.x.pay(7, 1);
        Stage.due("none", stage.tape().x.hush(), -2);
        Stage.due("one", stage.tape(7).x.hush(), 1);
        Stage.due("eight", stage.tape(EIGHT).x.hush(), 128);
        Stage.due("nine", stage.tape(NINE).x.hush(), -2);
        Stage.due("two alike", stage.tape(7, 7).x.hush(), -2);
        Stage.due("SEAT 16", stage.tape(7, 16).x.hush(), -2);
        stage.x.drawn(8, 1);
        stage.house("row aaaaaaaa;");
        stage.x.drawn(8, 1);
        Stage.due("all eight must", stage.tape(EIGHT).x.hush(), 255);
        Stage.due("seven are too few", stage.tape(0, 1, 2, 3, 4, 5, 6).x.hush(), NONE);
    }

    private static void hushBesidesThoseThatDo() {
        Stage stage = Stage.of("row aaa;");
        stage.x.drawn(3, 1);
        stage.x.hiss(0, 1);
        Stage.due("the other two", stage.tape(1, 2).x.hush(), 3);
        Stage.due("who HISSES is of no help", stage.tape(0, 1, 2).x.hush(), 6);
        stage.x.hiss(1, 1);
        stage.x.hiss(2, 1);
        Stage.due("none is needed", stage.tape(0, 1, 2).x.hush(), 0);
    }

    /** The fewest, then the least set (as bits by their order). */
    private static void hushFewestThenLeast() {
        Stage stage = Stage.of("row aaa;carry 3;");
        stage.x.drawn(3, 1);
        Stage.due("the first of three", stage.tape(2, 1, 0).x.hush(), 1);
        stage.house("row aaa;carry 2;");
        stage.x.drawn(3, 1);
        Stage.due("the first two of three", stage.tape(2, 1, 0).x.hush(), 3);
        stage.house("row baab;up b beside 2>0;carry 3;");
        stage.x.pay(1, 1);
        stage.x.pay(2, 1);
        Stage.due("one ahead of two with lesser bits", stage.tape(0, 3, 1).x.hush(), 4);
    }

    private static void coalitionsOf1To8() {
        Stage stage = Stage.of("row aaaaaaaa;row aaaaaaaa;carry 4;");
        Stage.due("none", stage.tape().x.coalitions(NONE), -2);
        Stage.due("none, k 0", stage.tape().x.coalitions(0), -2);
        Stage.due("one", stage.tape(0).x.coalitions(NONE), 0);
        Stage.due("four of eight", stage.tape(EIGHT).x.coalitions(NONE), 70);
        Stage.due("the first", stage.tape(EIGHT).x.coalitions(0), 15);
        Stage.due("the second", stage.tape(EIGHT).x.coalitions(1), 23);
        Stage.due("the last", stage.tape(EIGHT).x.coalitions(69), 240);
        Stage.due("behind the last", stage.tape(EIGHT).x.coalitions(70), NONE);
        Stage.due("far behind", stage.tape(EIGHT).x.coalitions(Integer.MAX_VALUE), NONE);
        Stage.due("below NONE", stage.tape(EIGHT).x.coalitions(-2), NONE);
        Stage.due("far below", stage.tape(EIGHT).x.coalitions(Integer.MIN_VALUE), NONE);
        Stage.due("nine", stage.tape(NINE).x.coalitions(NONE), -2);
        Stage.due("nine, k 70", stage.tape(NINE).x.coalitions(70), -2);
        Stage.due("two alike", stage.tape(1, 1).x.coalitions(NONE), -2);
        Stage.due("SEAT 16", stage.tape(16).x.coalitions(NONE), -2);
    }

    /** A greater set may CARRY no more, and a part of it does. */
    private static void coalitionsNoPartOfWhichDoes() {
        Stage stage = Stage.of("row aab;up b house 2=1 or self=1;carry 2;");
        Stage.due("each of both", stage.tape(0, 1).x.coalitions(NONE), 2);
        Stage.due("the first", stage.tape(0, 1).x.coalitions(0), 1);
        Stage.due("the second", stage.tape(0, 1).x.coalitions(1), 2);
        stage.house("row aab;carry 2;");
        Stage.due("two of three", stage.tape(0, 1, 2).x.coalitions(NONE), 3);
        Stage.due("rising", stage.tape(0, 1, 2).x.coalitions(2), 6);
        stage.x.pay(0, 1);
        Stage.due("PAID besides: one more", stage.tape(0, 1, 2).x.coalitions(NONE), 2);
        Stage.due("PAID besides: not itself", stage.tape(0, 1, 2).x.coalitions(0), 2);
    }

    private static void coalitionsTheEmptyOneAlone() {
        Stage stage = Stage.of("row aaa;");
        stage.x.pay(0, 1);
        Stage.due("the empty one", stage.tape(1, 2).x.coalitions(NONE), 1);
        Stage.due("as bits", stage.tape(1, 2).x.coalitions(0), 0);
        Stage.due("alone", stage.tape(1, 2).x.coalitions(1), NONE);
    }

    private static void sidesOf1To6() {
        Stage stage = Stage.of("row aaaaaaaa;row aaaaaaaa;");
        int[][] good = {{1, 0, 1}, {6, 0, 1, 2, 3, 4, 5, 6}, {1, 0, 1, 2, 3, 4, 5, 6},
            {6, 0, 1, 2, 3, 4, 5, 6, 7, 8, 9, 10, 11}};
        for (int[] tape : good) {
            Stage.due("sides " + Arrays.toString(tape), stage.tape(tape).x.sides(), 1);
        }
        int[][] wrong = {{}, {1}, {6}, {0}, {0, 1}, {0, 1, 2}, {1, 0}, {6, 0, 1, 2, 3, 4, 5}, {2, 0, 1}, {3, 0, 1},
            {7, 0, 1, 2, 3, 4, 5, 6, 7}, {1, 0, 1, 2, 3, 4, 5, 6, 7}, {6, 0, 1, 2, 3, 4, 5, 6, 7, 8, 9, 10, 11, 12},
            {255, 0, 1}, {128, 0, 1}};
        for (int[] tape : wrong) {
            Stage.due("sides " + Arrays.toString(tape), stage.tape(tape).x.sides(), NONE);
        }
        Stage.due("940 bytes", stage.tape(new int[940]).x.sides(), NONE);
    }

    private static void sidesAllUnlike() {
        Stage stage = Stage.of("row aaax;");
        Stage.due("unlike", stage.tape(2, 0, 1, 2).x.sides(), 1);
        Stage.due("alike in the first", stage.tape(2, 0, 0, 2).x.sides(), NONE);
        Stage.due("alike in the second", stage.tape(1, 0, 2, 2).x.sides(), NONE);
        Stage.due("alike in both", stage.tape(2, 0, 1, 0).x.sides(), NONE);
        Stage.due("a pillar in the first", stage.tape(1, 3, 0).x.sides(), NONE);
        Stage.due("a pillar in the second", stage.tape(1, 0, 3).x.sides(), NONE);
        Stage.due("no such SEAT in the first", stage.tape(1, 4, 0).x.sides(), NONE);
        Stage.due("no such SEAT in the second", stage.tape(1, 0, 4).x.sides(), NONE);
    }

    /** a's stand by the one beside them: what the first is sure of is less than what the second is. */
    private static void sidesSureOf() {
        Stage stage = Stage.of("row aaaaaa;up a beside 2>0;");
        Stage.due("what the first is sure of", stage.tape(2, 0, 5, 1, 4).x.sides(), 1);
        Stage.due("what the second is sure of", stage.x.side(0), 4);
        Stage.due("the first told of like ones", stage.x.side(1), 0);
        Stage.due("the first told of like ones, too", stage.x.side(2), 1);
        stage.tape(2, 5, 0, 4, 1).x.sides();
        Stage.due("told the other way", stage.x.side(1), 5);
        Stage.due("told the other way, too", stage.x.side(2), 4);
        stage.tape(3, 0, 2, 3, 1).x.sides();
        Stage.due("the greatest", stage.x.side(0), 4);
        Stage.due("the first told of the greatest", stage.x.side(1), 2);
        stage.x.hiss(0, 1);
        stage.x.hiss(2, 1);
        Stage.due("sure of nothing", stage.tape(2, 0, 2, 5).x.sides(), 0);
        Stage.due("with the first told", stage.x.side(1), 0);
        stage.house("row aaa;up a beside 2>0;");
        Stage.due("worth ahead of it", stage.tape(0).x.worth(), 3);
        Stage.due("sure of one", stage.tape(1, 0, 1).x.sides(), 1);
        Stage.due("the second is, too", stage.x.side(0), 1);
    }

    /** As high as a HOUSE can be: all but the one who HISSES, and all, if a CUE pays that one. */
    private static void sidesOfAFullHouse() {
        Stage stage = Stage.of("row aaaaaaaa;".repeat(8));
        stage.x.drawn(64, 1);
        Stage.due("63", stage.tape(1, 0, 63).x.sides(), 63);
        Stage.due("63 of the second", stage.x.side(0), 63);
        Stage.due("with SEAT 63", stage.x.side(2), 63);
        stage.cues("at 60 pay 7 6;");
        Stage.due("64", stage.tape(1, 0, 62).x.sides(), 64);
        Stage.due("64 of the second", stage.x.side(0), 64);
        Stage.due("with SEAT 62", stage.x.side(2), 62);
    }

    private static int[] bytes(int many, int value) {
        int[] bytes = new int[many];
        Arrays.fill(bytes, value);
        return bytes;
    }

    /** Of all SEATS and pillars row by row. */
    private static void sketchOfAllSeatsAndPillars() {
        Stage stage = Stage.of("row ax;row aa;");
        Stage.due("as many", stage.tape(3, 3, 3, 3).x.began(0), 6);
        Stage.due("one less", stage.tape(3, 3, 3).x.began(0), NONE);
        Stage.due("one more", stage.tape(3, 3, 3, 3, 3).x.began(0), NONE);
        Stage.due("none", stage.tape().x.began(0), NONE);
        Stage.due("row by row", stage.tape(0, 3, 2, 0).x.began(0), 1);
        Stage.due("SEAT 2 is the one", stage.x.beganAt(0), 2);
        stage.house("");
        Stage.due("an empty SKETCH of an empty HOUSE", stage.tape().x.began(0), 0);
        Stage.due("a SKETCH of one for an empty HOUSE", stage.tape(3).x.began(0), NONE);
        stage.house("row xx;");
        Stage.due("pillars alone", stage.tape(3, 3).x.began(0), 0);
    }

    /** 0 to 2: a LEVEL, 3: not seen. */
    private static void sketchOf0To3() {
        Stage stage = Stage.of("row ab;up b self<1;");
        Stage.due("0 is still", stage.tape(0, 3).x.began(0), 1);
        Stage.due("SEAT 1 alone", stage.x.beganAt(0), 1);
        Stage.due("1 claps", stage.tape(3, 1).x.began(1), 1);
        Stage.due("SEAT 0 alone", stage.x.beganAt(0), 0);
        Stage.due("2 stands", stage.tape(3, 2).x.began(1), 2);
        Stage.due("SEAT 0 with 1", stage.x.beganAt(1), 1);
        Stage.due("3 is not seen", stage.tape(3, 3).x.began(1), 3);
        Stage.due("4", stage.tape(4, 3).x.began(1), NONE);
        Stage.due("4 at the last", stage.tape(3, 4).x.began(1), NONE);
        Stage.due("255", stage.tape(255, 3).x.began(1), NONE);
    }

    private static void sketchPillarsOfNoMatter() {
        Stage stage = Stage.of("row ax;");
        for (int b : new int[] {0, 1, 2, 3, 4, 128, 255}) {
            Stage.due("a pillar with " + b, stage.tape(2, b).x.began(0), 1);
        }
        stage.house("row xaax;");
        for (int b : new int[] {0, 1, 2, 3, 4, 128, 255}) {
            Stage.due("pillars at both ends with " + b, stage.tape(b, 2, 0, b).x.began(0), 1);
        }
        stage.house("row aa;row ab;up b self<1;");
        Stage.due("no pillars", stage.tape(2, 0, 2, 1).x.began(1), 1);
        stage.house("row xa;row xx;");
        Stage.due("pillars where others stood and clapped", stage.tape(0, 2, 0, 0).x.began(0), 1);
    }

    /** Of a moment (0 to 60). */
    private static void sketchOfMoments0To60() {
        Stage stage = Stage.of("row ab;");
        stage.cues("at 60 hiss 0 0;");
        Stage.due("moment 0", stage.tape(2, 0).x.began(0), 1);
        Stage.due("moment 59", stage.tape(2, 0).x.began(59), 1);
        Stage.due("moment 60", stage.tape(0, 0).x.began(60), 1);
        Stage.due("moment 61", stage.tape(3, 3).x.began(61), NONE);
        Stage.due("moment -1", stage.tape(3, 3).x.began(-1), NONE);
        Stage.due("moment least", stage.tape(3, 3).x.began(Integer.MIN_VALUE), NONE);
        Stage.due("moment most", stage.tape(3, 3).x.began(Integer.MAX_VALUE), NONE);
    }

    /** How many sets of one or two SEATS, nobody else PAID. */
    private static void beganSetsOfOneOrTwo() {
        Stage stage = Stage.of("row aaaa;");
        stage.x.pay(3, 1);
        Stage.due("no set of none", stage.tape(0, 0, 0, 0).x.began(0), 0);
        Stage.due("one", stage.tape(0, 2, 0, 0).x.began(0), 1);
        Stage.due("its second", stage.x.beganAt(1), NONE);
        Stage.due("two", stage.tape(0, 2, 2, 0).x.began(0), 1);
        Stage.due("the lesser", stage.x.beganAt(0), 1);
        Stage.due("the other", stage.x.beganAt(1), 2);
        Stage.due("no set of three", stage.tape(2, 2, 2, 0).x.began(0), 0);
        Stage.due("none of no set", stage.x.beganAt(0), NONE);
        Stage.due("all of them", stage.tape(3, 3, 3, 3).x.began(0), 10);
        Stage.due("the very first", stage.x.beganAt(0), 0);
        Stage.due("one alone ahead of two", stage.x.beganAt(1), NONE);
        Stage.due("nobody is PAID by it", stage.x.count(6), 1);
    }

    private static void beganHissingAsItIs() {
        Stage stage = Stage.of("row aa;");
        stage.x.hiss(0, 1);
        Stage.due("SEAT 0 may be PAID in vain", stage.tape(0, 0).x.began(0), 1);
        Stage.due("it is the one", stage.x.beganAt(0), 0);
        Stage.due("it never stands", stage.tape(2, 3).x.began(0), 0);
        Stage.due("with it and without", stage.tape(0, 2).x.began(0), 2);
    }

    private static void beganHousesOf24() {
        Stage stage = Stage.of(OF_24);
        Stage.due("24", stage.tape(bytes(24, 3)).x.began(0), 300);
        stage.house(SPARSE);
        Stage.due("24 of 64", stage.tape(bytes(64, 3)).x.began(60), 300);
        stage.house(OF_25);
        Stage.due("25", stage.tape(bytes(25, 3)).x.began(0), NONE);
        stage.house("row aaaaaaaa;".repeat(8));
        Stage.due("64", stage.tape(bytes(64, 3)).x.began(0), NONE);
    }

    /** The first moment (0 to 60) in which two NIGHTS are unlike in some LEVEL. */
    private static void partsInMoments0To60() {
        Stage stage = Stage.of("row aaa;up a beside 2>0;");
        stage.x.pay(1, 1);
        Stage.due("at once", stage.x.parts(0, 2), 0);
        Stage.due("at once, the other way", stage.x.parts(2, 0), 0);
        Stage.due("one and the same", stage.x.parts(1, 1), NONE);
        stage.x.hiss(0, 1);
        Stage.due("one of both HISSES", stage.x.parts(0, 2), 0);
        stage.x.hiss(2, 1);
        Stage.due("both HISS: never", stage.x.parts(0, 2), NONE);
    }

    private static void anywayInBothNights() {
        Stage stage = Stage.of("row abc;up b self<9;up c house 2=0 or self=1;");
        Stage.due("nobody PAID: as many as stand", stage.x.anyway(2), stage.x.many(2, 2));
        Stage.due("two of them", stage.x.anyway(2), 2);
        stage.x.pay(0, 1);
        Stage.due("neither who is PAID nor who stands not", stage.x.anyway(2), 1);
        Stage.due("moment 0", stage.x.anyway(0), 0);
        Stage.due("of an empty HOUSE", new HouseClaps().anyway(600), 0);
        stage.house("row abc;up b house 2>0 or self<1;");
        stage.x.pay(0, 1);
        Stage.due("stands with hands, claps without: none", stage.x.anyway(2), 0);
        stage.house("row abc;up b house 2<1 or self<1;");
        stage.x.pay(0, 1);
        Stage.due("claps with hands", stage.x.at(1, 2, 0), 1);
        Stage.due("claps with hands, stands without: none", stage.x.anyway(2), 0);
    }

    /** Of like ones the least price, then the first. */
    private static void leaderLeastPriceThenFirst() {
        Stage stage = Stage.of("row aa;row aa;");
        Stage.due("the first", stage.x.leader(0), 0);
        stage.house("row aa;row aa;price 1 9;");
        Stage.due("the least price", stage.x.leader(0), 2);
        stage.house("row aa;row aa;price 0 0;price 1 0;");
        Stage.due("like prices", stage.x.leader(0), 0);
        stage.house("row xa;row ab;price 0 0;up b beside 2>0;");
        Stage.due("STARTS ahead of the price", stage.x.leader(0), 2);
        Stage.due("its STARTS", stage.x.leader(1), 2);
        stage.house("row xx;row xa;");
        Stage.due("one SEAT", stage.x.leader(0), 3);
        stage.house("row ax;row xx;price 1 0;");
        Stage.due("a pillar for nothing is none", stage.x.leader(0), 0);
        stage.house("row xx;row xx;price 1 0;");
        Stage.due("pillars for nothing are none", stage.x.leader(0), NONE);
        Stage.due("and start nothing", stage.x.leader(1), NONE);
    }

    /** x * 1103515245 + 12345 (an int, wrapping), the draw is (x >>> 8) % n. */
    private static void drawnWrapping() {
        int[] seeds = {0, 1, -1, Integer.MAX_VALUE, Integer.MIN_VALUE, 12345};
        int[][] due = {{48, 58, 33, 31}, {62, 56, 36, 17}, {33, 58, 15, 47}, {33, 26, 23, 38}, {48, 25, 26, 21},
            {22, 18, 26, 39}};
        for (int i = 0; i < seeds.length; i++) {
            Stage stage = Stage.of("row aaaaaaaa;".repeat(8));
            Stage.due("drawn by " + seeds[i], stage.x.drawn(1, seeds[i]), true);
            Stage.due("the one drawn by " + seeds[i], stage.x.seat(due[i][0], 3), 1);
            Stage.due("one alone", stage.x.count(6), 1);
            stage.x.drawn(4, seeds[i]);
            for (int s : due[i]) {
                Stage.due(s + " drawn by " + seeds[i], stage.x.seat(s, 3), 1);
            }
            Stage.due("four alone", stage.x.count(6), 4);
        }
    }

    /** One by one of the SEATS not yet drawn, in their order: pillars are none. */
    private static void drawnOfThoseNotYetDrawn() {
        int[] seeds = {0, 1, -1, Integer.MAX_VALUE, Integer.MIN_VALUE, 12345};
        int[] leftOut = {3, 2, 3, 0, 2, 5};
        for (int i = 0; i < seeds.length; i++) {
            Stage stage = Stage.of("row axa;row axa;");
            stage.x.drawn(3, seeds[i]);
            Stage.due("three of four by " + seeds[i], stage.x.count(6), 3);
            Stage.due("left out by " + seeds[i], stage.x.seat(leftOut[i], 3), 0);
            stage.x.drawn(4, seeds[i]);
            Stage.due("all four by " + seeds[i], stage.x.count(6), 4);
        }
    }

    private static void drawnNobodyElse() {
        Stage stage = Stage.of("row aaaa;");
        stage.x.drawn(4, 1);
        stage.x.hiss(0, 1);
        stage.x.drawn(1, 1);
        Stage.due("one alone is PAID", stage.x.count(6), 1);
        Stage.due("HISSING stays", stage.x.count(7), 1);
    }

    private static void arrangedTheFirstTwo() {
        Stage stage = Stage.of("row bbaa;up a beside 2>0;");
        stage.x.pay(0, 1);
        Stage.due("HEIGHT then", stage.x.arrange(), 3);
        Stage.due("two times", stage.x.arranged(), 2);
        int[] due = {1, 0, 0, 1};
        for (int s = 0; s < 4; s++) {
            Stage.due("KIND of " + s, stage.x.seat(s, 0), due[s]);
        }
        Stage.due("there is no more", stage.x.arrange(), 3);
        Stage.due("no time", stage.x.arranged(), 0);
    }

    /**
     * The rows follow one another like one long row: the first of each stands when the rows before it do. The b
     * behind the PAID one keeps all the others down, and each time it is exchanged with the one behind it.
     */
    private static void arrangedTwentyTimesAtMost() {
        Stage stage = Stage.of("row xxxxbba;row xxxaaaa;row xxaaaaa;row xaaaaaa;row aaaaaax;"
            + "up a beside 2>0 or near 2=1 and (house 2=3 or house 2=7 or house 2=12 or house 2=18);");
        Stage.due("SEATS", stage.x.count(2), 24);
        stage.x.pay(4, 1);
        Stage.due("HEIGHT ahead of it", stage.x.carries(1), 1);
        Stage.due("HEIGHT behind 20 times", stage.x.arrange(), 21);
        Stage.due("20 times", stage.x.arranged(), 20);
        Stage.due("HEIGHT now", stage.x.carries(1), 21);
        Stage.due("where the b is now", stage.x.seat(31, 0), 1);
        Stage.due("HEIGHT behind the rest", stage.x.arrange(), 23);
        Stage.due("the rest", stage.x.arranged(), 2);
        Stage.due("where the b ends", stage.x.seat(33, 0), 1);
    }

    private static void arrangedHousesOf24() {
        Stage stage = Stage.of("row bbaaaaaa;row aaaaaaaa;row aaaaaaaa;up a beside 2>0;");
        stage.x.pay(0, 1);
        Stage.due("24", stage.x.arrange(), 8);
        stage.house(OF_25);
        Stage.due("25", stage.x.arrange(), NONE);
        stage.house(SPARSE);
        Stage.due("24 of 64", stage.x.arrange(), 0);
        stage.house("row aaaaaaaa;".repeat(8));
        Stage.due("64", stage.x.arrange(), NONE);
        Stage.due("an empty HOUSE", new HouseClaps().arrange(), 0);
    }

    /** The first two SEATS (the lesser first, then the other). */
    private static void exchangedTheFirstTwo() {
        Stage stage = Stage.of("row abaa;up a beside 2>0;carry 3;");
        stage.x.pay(0, 1);
        Stage.due("0 and 1", stage.x.exchanged(), 1);
        stage.house("row bbaa;up a beside 2>0;carry 2;");
        stage.x.pay(0, 1);
        Stage.due("1 and 2", stage.x.exchanged(), 102);
        stage.house("row bbaa;up a beside 2>0;carry 3;");
        stage.x.pay(0, 1);
        Stage.due("1 and 3", stage.x.exchanged(), 103);
        stage.house("row bbaa;up a beside 2>0;carry 4;");
        stage.x.pay(0, 1);
        Stage.due("no two of them are enough", stage.x.exchanged(), NONE);
        stage.house("row xxxxxxxx;row xxxxxxxx;row xxxxxxxx;row xxxxxxxx;row xxxxxxxx;row xxxxxxxx;row xxxxxxxx;row xxxxbxba;"
            + "up a beside 2>0 or house 1>9;down a self>9;carry 2;");
        stage.x.pay(60, 1);
        Stage.due("none is beside 60", stage.x.exchanged(), NONE);
        stage.x.pay(60, 0);
        stage.x.pay(63, 1);
        Stage.due("62 and 63", stage.x.exchanged(), 6263);
    }

    private static void exchangedUnlikeKinds() {
        Stage stage = Stage.of("row aab;up a beside 2>0;carry 3;");
        stage.x.pay(0, 1);
        Stage.due("like KINDS are not exchanged", stage.x.exchanged(), 2);
        stage.house("row aaa;carry 3;");
        Stage.due("one KIND alone", stage.x.exchanged(), NONE);
        stage.house("row ab;");
        stage.x.pay(0, 1);
        Stage.due("CARRIES as it is", stage.x.exchanged(), NONE);
    }

    private static void exchangedHousesOf24() {
        Stage stage = Stage.of("row bbaaaaaa;row aaaaaaaa;row aaaaaaaa;up a beside 2>0;carry 2;");
        stage.x.pay(0, 1);
        Stage.due("24", stage.x.exchanged(), 102);
        stage.house("row bbaaa;row aaaaa;row aaaaa;row aaaaa;row aaaaa;up a beside 2>0;carry 2;");
        stage.x.pay(0, 1);
        Stage.due("25", stage.x.exchanged(), NONE);
        stage.house("row bbaaa;row aaaaa;row aaaaa;row aaaaa;row aaaax;up a beside 2>0;carry 2;");
        stage.x.pay(0, 1);
        Stage.due("24 and a pillar", stage.x.exchanged(), 102);
    }

    private static void startsOneSeatPaid() {
        Stage stage = Stage.of("row aba;up a beside 2>0;");
        stage.x.pay(0, 1);
        Stage.due("nobody else", stage.x.starts(2), 1);
        Stage.due("the one in the middle", stage.x.starts(1), 3);
        stage.x.hiss(1, 1);
        Stage.due("one who HISSES starts nothing", stage.x.starts(1), 0);
    }

    /** CUES are done in each NIGHT, also where it is told who is PAID and that nobody else is. */
    private static void cuesInEachNight() {
        Stage stage = Stage.of("row aaa;carry 2;");
        stage.cues("at 3 pay 0 2;");
        Stage.due("carries", stage.x.carries(1), 1);
        Stage.due("cheapest", stage.tape(0, 2).x.cheapest(), 10);
        Stage.due("coalitions", stage.tape(0, 1).x.coalitions(NONE), 2);
        Stage.due("worth", stage.tape(0).x.worth(), 2);
        Stage.due("adds", stage.x.worthOf(0, 0), 1);
        Stage.due("sides", stage.tape(1, 0, 2).x.sides(), 2);
        Stage.due("began", stage.tape(2, 0, 2).x.began(3), 2);
        Stage.due("starts", stage.x.starts(0), 2);
        Stage.due("starts of the one", stage.x.starts(2), 1);
        Stage.due("leader", stage.x.leader(1), 2);
        Stage.due("anyway", stage.x.anyway(3), 1);
        stage.x.pay(0, 1);
        Stage.due("hush", stage.tape(2, 0).x.hush(), 2);
        stage.house("row aba;up b beside 2>0;carry 3;");
        stage.cues("at 0 pay 0 0;at 9 pay 0 1;");
        Stage.due("exchanged", stage.x.exchanged(), 102);
        Stage.due("arrange", stage.x.arrange(), 3);
    }

    /** A new HOUSE: nobody PAID, nobody HISSES, no CUES. */
    private static void newHouse() {
        Stage stage = Stage.of("row aa;");
        stage.x.drawn(2, 1);
        stage.x.hiss(1, 1);
        stage.cues("at 0 still;");
        stage.house("row aa;");
        Stage.due("nobody PAID", stage.x.count(6), 0);
        Stage.due("nobody HISSES", stage.x.count(7), 0);
        Stage.due("no CUES", stage.x.count(9), 0);
        Stage.dueThrows("no CUE 0", () -> stage.x.cue(0, 0));
    }

    private static void throwingChangesNothing() {
        Stage stage = Stage.of("row ab;up a self<9;carry 2;");
        stage.x.pay(0, 1);
        stage.x.hiss(1, 1);
        stage.cues("at 5 still;");
        stage.tape(0, 1).x.worth();
        stage.tape(1, 2, 3);
        String before = stage.told();
        Stage.dueThrows("seat", () -> stage.x.seat(2, 0));
        Stage.dueThrows("seat, what", () -> stage.x.seat(0, 5));
        Stage.dueThrows("cue", () -> stage.x.cue(1, 0));
        Stage.dueThrows("cue, what", () -> stage.x.cue(0, 3));
        Stage.dueThrows("worthOf", () -> stage.x.worthOf(2, 0));
        Stage.dueThrows("worthOf, what", () -> stage.x.worthOf(0, 2));
        Stage.dueSame("behind throwing", stage.told(), before);
    }
}
