/** Each boundary that the Terms name of SEATS, what one perceives, NIGHTS, UP, CALLS and AGAIN. */
public final class NightEdgesTest {
    private static final int NEAR = 0;
    private static final int AHEAD = 1;
    private static final int BESIDE = 2;
    private static final int BEHIND = 3;
    private static final int SEEN = 4;
    private static final int HOUSE = 5;
    private static final String EIGHT_ROWS = "row aaaaaaaa;".repeat(8);

    public static void main(String[] args) {
        seatsAreRowTimesColumnsAndColumn();
        pillarsAreNone();
        heldThreeOrLonger();
        nearTheEightAround();
        noSeatIsNearRoundTheWall();
        aheadTheOneInTheRowBefore();
        behindTheOneInTheRowBehind();
        besideLeftAndRight();
        houseAllOthers();
        seenTheThreeRowsBefore();
        seenAsManyColumnsAway();
        seenNoneIfAPillarStandsAhead();
        levelToldOrMore();
        momentZero();
        twoAtMost();
        zeroAtLeast();
        elseDown();
        signsAtTheEnds();
        heldBeginsAgain();
        deepestLawsInANight();
        rowByRowFromTheFirst();
        oneRowIsTheSameRowByRow();
        cuesOfMomentZero();
        cuesOfTheLastMoment();
        cuesInOrder();
        cuePaysFromThenOn();
        cueHisses();
        cueFrees();
        stillInThatMoment();
        stillButPaidOnesUpToPaid();
        paidStandUpToPaid();
        paidForNoMomentButTheFirst();
        paidToTheEnd();
        whoHissesIsStill();
        leavesFromThatMomentOn();
        leavesAtOnce();
        leavesInTheLastMoment();
        upByCarryOrMore();
        callsAlsoInMomentZero();
        againFromZero();
        againFromTheLastLeaves();
        againFromTheLastCue();
        againBehindPaid();
        againOnlyIfSomebodyIsPaid();
        againFromTheLatest();
        againOfLevelsAndHeld();
        againUpTo600();
        Stage.close("NightEdgesTest");
    }

    private static HouseClaps houseOf(String text) {
        return Stage.of(text).x;
    }

    private static void levels(String what, HouseClaps x, int s, int... due) {
        for (int t = 0; t < due.length; t++) {
            Stage.due(what + ": LEVEL of " + s + " in moment " + t, x.at(s, t, 0), due[t]);
        }
    }

    private static void heldOf(String what, HouseClaps x, int s, int... due) {
        for (int t = 0; t < due.length; t++) {
            Stage.due(what + ": HELD of " + s + " in moment " + t, x.at(s, t, 1), due[t]);
        }
    }

    /** What SEAT s perceives of an area in moment 0, if one SEAT alone stands. */
    private static void perceives(String house, int s, int area, int paid, int due) {
        HouseClaps x = houseOf(house);
        x.pay(paid, 1);
        Stage.due(s + " perceives " + paid + " in area " + area + " of " + house, x.sees(s, 0, area, 1), due);
    }

    private static void seatsAreRowTimesColumnsAndColumn() {
        HouseClaps x = houseOf("row abc;row def;");
        for (int s = 0; s < 6; s++) {
            Stage.due("KIND of SEAT " + s, x.seat(s, 0), s);
        }
        Stage.dueThrows("SEAT 6 of 6", () -> x.seat(6, 0));
        HouseClaps full = houseOf(EIGHT_ROWS);
        Stage.due("SEAT 63", full.seat(63, 0), 0);
        Stage.due("64 SEATS", full.count(2), 64);
        Stage.dueThrows("SEAT 64", () -> full.seat(64, 0));
        HouseClaps column = houseOf("row a;row b;row c;");
        Stage.due("one column", column.seat(2, 0), 2);
    }

    private static void pillarsAreNone() {
        HouseClaps x = houseOf("row xax;row bxc;");
        Stage.due("SEATS", x.count(2), 3);
        for (int s : new int[] {0, 2, 4}) {
            Stage.dueThrows("pillar " + s, () -> x.seat(s, 0));
            Stage.due("LEVEL of pillar " + s, x.at(s, 0, 0), -1);
        }
        x.drawn(3, 1);
        Stage.due("all around are seen, no pillars", x.sees(1, 0, NEAR, 2), 2);
        Stage.due("a pillar is not behind", x.sees(1, 0, BEHIND, 2), 0);
        Stage.due("a pillar is not beside", x.sees(3, 0, BESIDE, 2), 0);
        Stage.due("all of LEVEL 0 or more", x.many(0, 0), 3);
    }

    /** HELD: 0 to 3 moments (3: or longer). */
    private static void heldThreeOrLonger() {
        HouseClaps x = houseOf("row a;");
        heldOf("still for good", x, 0, 0, 1, 2, 3, 3, 3);
        Stage.due("HELD in moment 600", x.at(0, 600, 1), 3);
    }

    private static void nearTheEightAround() {
        HouseClaps x = houseOf("row aaa;row aaa;row aaa;");
        x.drawn(9, 1);
        int[] due = {3, 5, 3, 5, 8, 5, 3, 5, 3};
        for (int s = 0; s < 9; s++) {
            Stage.due("near " + s, x.sees(s, 0, NEAR, 2), due[s]);
        }
        for (int far : new int[] {0, 1, 2, 3, 4, 5, 9, 10, 14, 15, 19, 20, 21, 22, 23, 24}) {
            boolean near = far / 5 > 0 && far / 5 < 4 && far % 5 > 0 && far % 5 < 4;
            perceives("row aaaaa;".repeat(5), 12, NEAR, far, near ? 1 : 0);
        }
        perceives("row a;", 0, NEAR, 0, 0);
    }

    /** The end of a row and the beginning of the next are neighbours by number alone. */
    private static void noSeatIsNearRoundTheWall() {
        String house = "row aaa;row aaa;row aaa;";
        for (int area = NEAR; area <= SEEN; area++) {
            perceives(house, 2, area, 3, 0);
            perceives(house, 3, area, 2, 0);
            perceives(house, 5, area, 6, 0);
            perceives(house, 6, area, 5, 0);
            perceives(house, 0, area, 8, 0);
            perceives(house, 8, area, 0, area == SEEN ? 1 : 0);
            perceives(EIGHT_ROWS, 0, area, 63, 0);
            perceives(EIGHT_ROWS, 63, area, 0, 0);
            perceives(EIGHT_ROWS, 7, area, 8, 0);
            perceives(EIGHT_ROWS, 8, area, 7, 0);
            perceives(EIGHT_ROWS, 56, area, 55, 0);
            perceives(EIGHT_ROWS, 56, area, 0, 0);
            perceives(EIGHT_ROWS, 56, area, 1, 0);
            perceives(EIGHT_ROWS, 63, area, 7, 0);
            perceives(EIGHT_ROWS, 0, area, 56, 0);
        }
    }

    private static void aheadTheOneInTheRowBefore() {
        String house = "row aaa;row aaa;row aaa;";
        perceives(house, 7, AHEAD, 4, 1);
        perceives(house, 7, AHEAD, 1, 0);
        perceives(house, 7, AHEAD, 3, 0);
        perceives(house, 7, AHEAD, 5, 0);
        perceives(house, 1, AHEAD, 4, 0);
        perceives(house, 1, AHEAD, 7, 0);
        perceives("row xa;row aa;", 2, AHEAD, 1, 0);
    }

    private static void behindTheOneInTheRowBehind() {
        String house = "row aaa;row aaa;row aaa;";
        perceives(house, 1, BEHIND, 4, 1);
        perceives(house, 1, BEHIND, 7, 0);
        perceives(house, 1, BEHIND, 3, 0);
        perceives(house, 1, BEHIND, 5, 0);
        perceives(house, 7, BEHIND, 4, 0);
        perceives(house, 7, BEHIND, 1, 0);
    }

    private static void besideLeftAndRight() {
        String house = "row aaaaa;row aaaaa;";
        perceives(house, 2, BESIDE, 1, 1);
        perceives(house, 2, BESIDE, 3, 1);
        perceives(house, 2, BESIDE, 0, 0);
        perceives(house, 2, BESIDE, 4, 0);
        perceives(house, 2, BESIDE, 2, 0);
        perceives(house, 0, BESIDE, 1, 1);
        perceives(house, 4, BESIDE, 3, 1);
        perceives(house, 2, BESIDE, 7, 0);
        perceives("row a;row a;", 0, BESIDE, 1, 0);
    }

    /** House: all others, so never itself. */
    private static void houseAllOthers() {
        perceives("row a;", 0, HOUSE, 0, 0);
        perceives("row aa;", 0, HOUSE, 0, 0);
        perceives("row aa;", 0, HOUSE, 1, 1);
        perceives(EIGHT_ROWS, 0, HOUSE, 63, 1);
        perceives(EIGHT_ROWS, 63, HOUSE, 63, 0);
        HouseClaps x = houseOf(EIGHT_ROWS);
        x.drawn(64, 3);
        Stage.due("63 others", x.sees(63, 0, HOUSE, 2), 63);
        Stage.due("63 others of SEAT 0", x.sees(0, 0, HOUSE, 2), 63);
    }

    /** Seen: those of the three rows before it. */
    private static void seenTheThreeRowsBefore() {
        int s = 5 * 8 + 4;
        int[] due = {0, 0, 1, 1, 1, 0, 0, 0};
        for (int row = 0; row < 8; row++) {
            perceives(EIGHT_ROWS, s, SEEN, row * 8 + 4, due[row]);
        }
        perceives(EIGHT_ROWS, s, SEEN, s - 1, 0);
        perceives(EIGHT_ROWS, 4, SEEN, 12, 0);
        perceives(EIGHT_ROWS, 12, SEEN, 4, 1);
        perceives(EIGHT_ROWS, 20, SEEN, 4, 1);
    }

    /** In the k-th of these (1 to 3) as many as k columns away at most. */
    private static void seenAsManyColumnsAway() {
        int s = 3 * 8 + 4;
        for (int k = 1; k <= 3; k++) {
            int straight = s - 8 * k;
            perceives(EIGHT_ROWS, s, SEEN, straight - k, 1);
            perceives(EIGHT_ROWS, s, SEEN, straight - k - 1, 0);
            perceives(EIGHT_ROWS, s, SEEN, straight + Math.min(3, k), 1);
            if (k < 3) {
                perceives(EIGHT_ROWS, s, SEEN, straight + k + 1, 0);
            }
        }
        HouseClaps x = houseOf(EIGHT_ROWS);
        x.drawn(64, 3);
        Stage.due("all that is seen", x.sees(s, 0, SEEN, 2), 3 + 5 + 7);
        Stage.due("seen at the left wall", x.sees(3 * 8, 0, SEEN, 2), 2 + 3 + 4);
        Stage.due("seen at the right wall", x.sees(3 * 8 + 7, 0, SEEN, 2), 2 + 3 + 4);
        Stage.due("seen from row 2", x.sees(2 * 8 + 4, 0, SEEN, 2), 3 + 5);
        Stage.due("seen from row 1", x.sees(8 + 4, 0, SEEN, 2), 3);
        Stage.due("seen from row 0", x.sees(4, 0, SEEN, 2), 0);
    }

    /** None if a pillar stands ahead of it. */
    private static void seenNoneIfAPillarStandsAhead() {
        HouseClaps ahead = houseOf("row aaa;row axa;row aaa;");
        ahead.drawn(8, 1);
        Stage.due("a pillar ahead", ahead.sees(7, 0, SEEN, 2), 0);
        Stage.due("a pillar beside the one ahead", ahead.sees(6, 0, SEEN, 2), 1 + 3);
        HouseClaps further = houseOf("row axa;row aaa;row aaa;");
        further.drawn(8, 1);
        Stage.due("a pillar two rows before", further.sees(7, 0, SEEN, 2), 3 + 2);
        Stage.due("a pillar in the row before", further.sees(4, 0, SEEN, 2), 0);
        HouseClaps beside = houseOf("row aaa;row xax;");
        beside.drawn(4, 1);
        Stage.due("pillars beside it", beside.sees(4, 0, SEEN, 2), 3);
    }

    /** How many have the LEVEL told or more. */
    private static void levelToldOrMore() {
        HouseClaps x = houseOf("row abc;up b self<1;");
        x.pay(0, 1);
        Stage.due("one who stands and one who claps", x.sees(2, 1, HOUSE, 1), 2);
        Stage.due("one who stands", x.sees(2, 1, HOUSE, 2), 1);
        Stage.due("LEVEL 0 or more", x.many(1, 0), 3);
        Stage.due("LEVEL 1 or more", x.many(1, 1), 2);
        Stage.due("LEVEL 2", x.many(1, 2), 1);
    }

    /** At moment 0 all are still, but for PAID ones, who stand; HELD 0. */
    private static void momentZero() {
        HouseClaps x = houseOf("row ab;up a self<9;up b self<9;");
        x.pay(1, 1);
        Stage.due("still", x.at(0, 0, 0), 0);
        Stage.due("stands", x.at(1, 0, 0), 2);
        Stage.due("HELD of the still", x.at(0, 0, 1), 0);
        Stage.due("HELD of the PAID", x.at(1, 0, 1), 0);
        Stage.due("HELD of the PAID in moment 1", x.at(1, 1, 1), 1);
    }

    /** Up holds: one LEVEL more (2 at most). */
    private static void twoAtMost() {
        HouseClaps x = houseOf("row a;up a self<9;");
        levels("up for good", x, 0, 0, 1, 2, 2, 2);
        heldOf("up for good", x, 0, 0, 0, 0, 1, 2, 3, 3);
    }

    /** Else down holds: one less (0 at least). */
    private static void zeroAtLeast() {
        HouseClaps x = houseOf("row a;down a self<9;paid 0;");
        x.pay(0, 1);
        levels("down for good", x, 0, 2, 1, 0, 0, 0);
        heldOf("down for good", x, 0, 0, 0, 0, 1, 2, 3, 3);
    }

    /** Nothing is below 0, and nothing above 999. */
    private static void signsAtTheEnds() {
        for (String what : new String[] {"self", "held", "near 1", "seen 2", "house 1"}) {
            HouseClaps x = houseOf("row ab;up a " + what + "<0;up b not " + what + "<0;");
            Stage.due(what + " is not below 0", x.would(0, 0, 0), 0);
            Stage.due(what + " is not below 0, not", x.would(1, 0, 0), 1);
            Stage.due(what + " below 0 lifts nobody", x.at(0, 5, 0), 0);
            HouseClaps y = houseOf("row ab;up a " + what + ">999;up b " + what + "<999;");
            Stage.due(what + " is not above 999", y.would(0, 0, 0), 0);
            Stage.due(what + " is below 999", y.would(1, 0, 0), 1);
            HouseClaps z = houseOf("row ab;up a " + what + "=0;up b " + what + ">0;");
            Stage.due(what + " is 0 at first", z.would(0, 0, 0), 1);
            Stage.due(what + " is not above 0 at first", z.would(1, 0, 0), 0);
        }
    }

    /** Down is of no matter where up holds, also for one who stands already. */
    private static void elseDown() {
        HouseClaps both = houseOf("row a;up a self<9;down a self<9;");
        levels("both hold", both, 0, 0, 1, 2, 2, 2);
        HouseClaps turn = houseOf("row a;up a self<2;down a self>1;");
        levels("up to 2, then down", turn, 0, 0, 1, 2, 1, 2, 1);
    }

    /** HELD: 0, if the LEVEL changed, else one more (3 at most). */
    private static void heldBeginsAgain() {
        HouseClaps x = houseOf("row a;up a held=3;down a held=9;");
        levels("up behind three", x, 0, 0, 0, 0, 0, 1, 1, 1, 1, 2, 2);
        heldOf("up behind three", x, 0, 0, 1, 2, 3, 0, 1, 2, 3, 0, 1, 2, 3, 3);
    }

    /** ONES 8 within one another hold in a NIGHT as on their own. */
    private static void deepestLawsInANight() {
        String deep = "(".repeat(7);
        String end = ")".repeat(7);
        HouseClaps x = houseOf("row a;up a " + deep + "self<2" + end + ";down a " + deep + "self=2" + end + ";");
        levels("brackets", x, 0, 0, 1, 2, 1, 2, 1);
        String nots = "not ".repeat(7);
        HouseClaps y = houseOf("row a;up a " + nots + "self=2;down a " + nots + "self<2;");
        levels("nots", y, 0, 0, 1, 2, 1, 2, 1);
    }

    /** With 'rows': of those in rows before it by moment T already. */
    private static void rowByRowFromTheFirst() {
        String chain = "row a;".repeat(8) + "up a ahead 1>0;";
        HouseClaps once = houseOf(chain);
        once.pay(0, 1);
        HouseClaps rows = houseOf(chain + "rows;");
        rows.pay(0, 1);
        for (int r = 1; r < 8; r++) {
            Stage.due("all at once row " + r, once.at(r, r, 0), 1);
            Stage.due("not before, row " + r, once.at(r, r - 1, 0), 0);
            Stage.due("row by row " + r, rows.at(r, 1, 0), 1);
        }
        HouseClaps back = houseOf("row a;row a;row a;up a behind 1>0;rows;");
        back.pay(2, 1);
        levels("rows behind by the moment before", back, 0, 0, 0, 1, 2);
        HouseClaps same = houseOf("row aaa;up a beside 1>0;rows;");
        same.pay(0, 1);
        levels("its own row by the moment before", same, 2, 0, 0, 1, 2);
        HouseClaps self = houseOf("row a;row a;up a ahead 2>0 and self<1;rows;");
        self.pay(0, 1);
        levels("its own LEVEL by the moment before", self, 1, 0, 1, 1);
        HouseClaps full = houseOf(EIGHT_ROWS + "up a self<9;rows;");
        for (int r = 0; r < 8; r++) {
            levels("each row once a moment", full, r * 9, 0, 1, 2, 2);
        }
    }

    private static void oneRowIsTheSameRowByRow() {
        String house = "row abab;up a beside 1>0;up b house 2>1;down a held>1;down b near 2<1;";
        HouseClaps once = houseOf(house);
        HouseClaps rows = houseOf(house + "rows;");
        once.pay(1, 1);
        rows.pay(1, 1);
        for (int t = 0; t < 12; t++) {
            for (int s = 0; s < 4; s++) {
                Stage.due("one row, SEAT " + s + " in " + t, rows.at(s, t, 0), once.at(s, t, 0));
            }
        }
    }

    /** First of all the CUES of a moment (of 0, too) are done. */
    private static void cuesOfMomentZero() {
        Stage stage = Stage.of("row aaa;");
        stage.x.pay(1, 1);
        stage.x.pay(2, 1);
        stage.cues("at 0 pay 0 0;at 0 hiss 0 1;at 0 free 0 2;at 0 still;");
        levels("PAID at 0", stage.x, 0, 2, 2);
        levels("HISSES at 0", stage.x, 1, 0, 0);
        levels("free at 0", stage.x, 2, 0, 0);
        Stage.due("up at 0 by a CUE", stage.x.up(), 0);
    }

    private static void cuesOfTheLastMoment() {
        Stage stage = Stage.of("row aa;");
        stage.x.pay(1, 1);
        stage.cues("at 600 pay 0 0;at 600 hiss 0 1;");
        Stage.due("not in 599", stage.x.at(0, 599, 0), 0);
        Stage.due("in 600", stage.x.at(0, 600, 0), 2);
        Stage.due("on up to 599", stage.x.at(1, 599, 0), 2);
        Stage.due("no more in 600", stage.x.at(1, 600, 0), 0);
        Stage.due("HELD in 600", stage.x.at(1, 600, 1), 0);
    }

    private static void cuesInOrder() {
        Stage stage = Stage.of("row a;");
        String[] deeds = {"pay", "hiss", "free"};
        for (int first = 0; first < 3; first++) {
            for (int last = 0; last < 3; last++) {
                stage.cues("at 3 " + deeds[first] + " 0 0;at 3 " + deeds[last] + " 0 0;");
                levels(deeds[first] + ", then " + deeds[last], stage.x, 0, 0, 0, 0, last == 0 ? 2 : 0);
            }
        }
    }

    /** Pay: it is PAID from then on in this NIGHT and does not HISS. */
    private static void cuePaysFromThenOn() {
        Stage stage = Stage.of("row ab;up b ahead 1>9;paid 5;down a self>0;");
        stage.x.hiss(0, 1);
        stage.cues("at 2 pay 0 0;");
        levels("PAID from 2 up to 5", stage.x, 0, 0, 0, 2, 2, 2, 2, 1, 0);
        Stage.due("in this NIGHT alone", stage.x.seat(0, 3), 0);
        Stage.due("HISSES ahead of CUES", stage.x.seat(0, 4), 1);
        stage.cues("at 5 pay 0 0;at 6 pay 0 1;");
        levels("PAID in 5 alone", stage.x, 0, 0, 0, 0, 0, 0, 2, 1, 0);
        levels("PAID behind 'paid'", stage.x, 1, 0, 0, 0, 0, 0, 0, 0, 0);
    }

    /** Hiss: it HISSES, and is not PAID. */
    private static void cueHisses() {
        Stage stage = Stage.of("row a;up a self<9;");
        stage.x.pay(0, 1);
        stage.cues("at 2 hiss 0 0;at 4 free 0 0;");
        levels("HISSES, and is not PAID any more", stage.x, 0, 2, 2, 0, 0, 1, 2);
    }

    /** Free: neither. */
    private static void cueFrees() {
        Stage stage = Stage.of("row aa;down a self>0;up a self<1 and held=3;");
        stage.x.pay(0, 1);
        stage.x.hiss(1, 1);
        stage.cues("at 1 free 0 0;at 4 free 0 1;");
        levels("PAID no more", stage.x, 0, 2, 1, 0);
        levels("HISSES no more", stage.x, 1, 0, 0, 0, 0, 1);
    }

    /** Still: all are still in that moment. */
    private static void stillInThatMoment() {
        Stage stage = Stage.of("row a;row b;up a self<9;up b ahead 2>0;rows;");
        stage.cues("at 4 still;");
        levels("still in 4 alone", stage.x, 0, 0, 1, 2, 2, 0, 1, 2, 2);
        levels("all of them", stage.x, 1, 0, 0, 1, 2, 0, 0, 1, 2);
        heldOf("HELD as by LEVEL", stage.x, 0, 0, 0, 0, 1, 0, 0, 0, 1);
        stage.cues("at 1 still;at 2 still;");
        heldOf("HELD on as the LEVEL stays", stage.x, 0, 0, 1, 2, 0, 0, 1);
    }

    /** But PAID ones up to 'paid'. */
    private static void stillButPaidOnesUpToPaid() {
        Stage stage = Stage.of("row aa;paid 3;");
        stage.x.pay(0, 1);
        stage.cues("at 3 still;at 4 still;");
        levels("PAID stands in 3, not in 4", stage.x, 0, 2, 2, 2, 2, 0, 0);
        stage.cues("at 5 still;");
        levels("stands on by itself until 5", stage.x, 0, 2, 2, 2, 2, 2, 0, 0);
        stage.x.hiss(0, 1);
        stage.cues("at 1 still;");
        levels("PAID and HISSING", stage.x, 0, 0, 0, 0);
        stage.cues("at 2 still;at 2 pay 0 1;");
        levels("PAID in that moment, behind 'still'", stage.x, 1, 0, 0, 2, 2, 2);
    }

    /** PAID ones stand in moments 0 to 'paid'. */
    private static void paidStandUpToPaid() {
        HouseClaps x = houseOf("row a;down a self>0;paid 3;");
        x.pay(0, 1);
        levels("PAID up to 3", x, 0, 2, 2, 2, 2, 1, 0);
        heldOf("HELD while PAID", x, 0, 0, 1, 2, 3, 0, 0, 1);
    }

    private static void paidForNoMomentButTheFirst() {
        HouseClaps x = houseOf("row a;down a self>0;paid 0;");
        x.pay(0, 1);
        levels("PAID in 0 alone", x, 0, 2, 1, 0, 0);
    }

    private static void paidToTheEnd() {
        HouseClaps x = houseOf("row a;down a self>0;paid 600;");
        x.pay(0, 1);
        Stage.due("PAID in 600", x.at(0, 600, 0), 2);
        HouseClaps y = houseOf("row a;down a self>0;paid 599;");
        y.pay(0, 1);
        Stage.due("PAID in 599", y.at(0, 599, 0), 2);
        Stage.due("not in 600", y.at(0, 600, 0), 1);
    }

    private static void whoHissesIsStill() {
        HouseClaps x = houseOf("row a;up a self<9;");
        x.hiss(0, 1);
        levels("HISSES", x, 0, 0, 0, 0, 0);
        heldOf("HISSES", x, 0, 0, 1, 2, 3, 3);
        Stage.due("up of its KIND holds, and yet", x.would(0, 5, 0), 1);
    }

    /** 'leaves' T: from moment T on: HELD as by their LEVEL, too. */
    private static void leavesFromThatMomentOn() {
        HouseClaps x = houseOf("row ab;row ab;up a self<9;leaves 0 3;");
        x.pay(1, 1);
        levels("leaves in 3", x, 0, 0, 1, 2, 0, 0, 0);
        levels("a PAID one leaves in 3", x, 1, 2, 2, 2, 0, 0);
        levels("the other row stays", x, 2, 0, 1, 2, 2, 2);
        heldOf("HELD of who left", x, 0, 0, 0, 0, 0, 1, 2, 3, 3);
        Stage stage = Stage.of("row a;leaves 0 3;");
        stage.cues("at 4 pay 0 0;");
        levels("PAID behind leaving", stage.x, 0, 0, 0, 0, 0, 0, 0);
        HouseClaps three = houseOf("row a;row a;row a;up a self<9;leaves 0 2;leaves 1 4;leaves 2 4;");
        levels("left in 2, for good", three, 0, 0, 1, 0, 0, 0, 0, 0, 0);
        levels("left in 4, for good", three, 1, 0, 1, 2, 2, 0, 0, 0, 0);
        levels("left in 4 with another row", three, 2, 0, 1, 2, 2, 0, 0, 0, 0);
    }

    private static void leavesAtOnce() {
        HouseClaps x = houseOf("row a;row a;up a self<9;leaves 1 0;");
        x.pay(1, 1);
        levels("leaves in 0", x, 1, 0, 0, 0);
        heldOf("leaves in 0", x, 1, 0, 1, 2, 3, 3);
    }

    private static void leavesInTheLastMoment() {
        HouseClaps x = houseOf("row a;leaves 0 600;");
        x.pay(0, 1);
        Stage.due("there in 599", x.at(0, 599, 0), 2);
        Stage.due("gone in 600", x.at(0, 600, 0), 0);
    }

    /** UP: how many stand are 'carry' or more. */
    private static void upByCarryOrMore() {
        HouseClaps x = houseOf("row aaaa;carry 3;");
        x.pay(0, 1);
        x.pay(1, 1);
        Stage.due("one less", x.up(), -1);
        x.pay(2, 1);
        Stage.due("as many", x.up(), 0);
        x.pay(3, 1);
        Stage.due("more", x.up(), 0);
        HouseClaps full = houseOf(EIGHT_ROWS + "carry 64;");
        full.drawn(63, 1);
        Stage.due("63 of 64", full.up(), -1);
        full.drawn(64, 1);
        Stage.due("64 of 64", full.up(), 0);
        Stage.due("an empty house is never up", new HouseClaps().up(), -1);
        HouseClaps clap = houseOf("row a;up a self<1;");
        Stage.due("claps do not count", clap.up(), -1);
    }

    /** CALLS: UP and was not in the moment before (moment 0, too). */
    private static void callsAlsoInMomentZero() {
        Stage stage = Stage.of("row a;");
        stage.x.pay(0, 1);
        Stage.due("in 0", stage.x.calls(0), 1);
        Stage.due("once for all", stage.x.calls(600), 1);
        stage.cues("at 1 hiss 0 0;at 2 pay 0 0;at 3 free 0 0;at 3 still;at 600 pay 0 0;");
        Stage.due("up to 1", stage.x.calls(1), 1);
        Stage.due("up to 2", stage.x.calls(2), 2);
        Stage.due("up to 599", stage.x.calls(599), 2);
        Stage.due("up to 600", stage.x.calls(600), 3);
    }

    private static void dueAgain(String what, HouseClaps x, int m, int later) {
        Stage.due(what + ": M", x.again(0), m);
        Stage.due(what + ": later", x.again(1), later);
    }

    private static void againFromZero() {
        dueAgain("an empty HOUSE", new HouseClaps(), 0, 1);
        dueAgain("pillars alone", houseOf("row xx;paid 3;"), 0, 1);
        dueAgain("all still", houseOf("row a;"), 3, 1);
        dueAgain("to and fro", houseOf("row a;up a self<2;down a self=2;"), 1, 2);
    }

    /** From the last 'leaves' on: of all rows, in whatever order they are told. */
    private static void againFromTheLastLeaves() {
        dueAgain("the one of row 0 is the last", houseOf("row a;row a;leaves 0 30;leaves 1 20;"), 30, 1);
        dueAgain("the one of row 1 is the last", houseOf("row a;row a;leaves 0 20;leaves 1 30;"), 30, 1);
        dueAgain("told the other way round", houseOf("row a;row a;leaves 1 30;leaves 0 20;"), 30, 1);
        dueAgain("a row of pillars leaves", houseOf("row a;row x;leaves 1 30;"), 30, 1);
        HouseClaps x = houseOf("row a;leaves 0 30;");
        x.pay(0, 1);
        dueAgain("still from 30 on, HELD 3 in 33", x, 33, 1);
        dueAgain("leaves in 0", houseOf("row a;leaves 0 0;"), 3, 1);
    }

    private static void againFromTheLastCue() {
        Stage stage = Stage.of("row a;");
        stage.cues("at 10 still;at 50 still;");
        dueAgain("the last CUE", stage.x, 50, 1);
        stage.cues("at 50 pay 0 0;");
        dueAgain("PAID in 50, HELD 3 in 53", stage.x, 53, 1);
        stage.cues("at 0 free 0 0;");
        dueAgain("a CUE of moment 0", stage.x, 3, 1);
        stage.cues("");
        dueAgain("no CUES any more", stage.x, 3, 1);
    }

    /** If somebody is PAID and 'paid' is below 600, from 'paid' and 1 on. */
    private static void againBehindPaid() {
        HouseClaps x = houseOf("row a;paid 20;");
        x.pay(0, 1);
        dueAgain("from 21 on", x, 21, 1);
        HouseClaps down = houseOf("row a;paid 20;down a self>0;");
        down.pay(0, 1);
        dueAgain("1 in 21, 0 in 22, HELD 3 in 25", down, 25, 1);
        HouseClaps zero = houseOf("row a;paid 0;");
        zero.pay(0, 1);
        dueAgain("from 1 on, HELD 3 in 3", zero, 3, 1);
        HouseClaps full = houseOf("row a;paid 600;");
        full.pay(0, 1);
        dueAgain("600 is not below 600", full, 3, 1);
    }

    /** Also one who HISSES, by a CUE, too. */
    private static void againOnlyIfSomebodyIsPaid() {
        Stage stage = Stage.of("row ab;paid 20;");
        dueAgain("nobody", stage.x, 3, 1);
        stage.x.hiss(0, 1);
        dueAgain("one who HISSES and is not PAID", stage.x, 3, 1);
        stage.x.pay(0, 1);
        dueAgain("one who HISSES and is PAID", stage.x, 21, 1);
        stage.x.pay(0, 0);
        dueAgain("nobody any more", stage.x, 3, 1);
        stage.cues("at 5 pay 0 0;");
        dueAgain("by a CUE", stage.x, 21, 1);
        stage.cues("at 5 free 0 0;at 5 hiss 0 1;at 5 still;");
        dueAgain("by no other CUE", stage.x, 5, 1);
        stage.cues("at 30 pay 0 0;");
        dueAgain("by a CUE behind 'paid'", stage.x, 30, 1);
    }

    private static void againFromTheLatest() {
        Stage stage = Stage.of("row a;row x;leaves 1 40;paid 20;");
        stage.x.pay(0, 1);
        stage.cues("at 30 still;");
        dueAgain("leaves is the latest", stage.x, 40, 1);
        stage.house("row a;row x;leaves 1 30;paid 20;");
        stage.x.pay(0, 1);
        stage.cues("at 40 free 0 0;");
        dueAgain("the CUE is the latest", stage.x, 40, 1);
        stage.house("row a;row x;leaves 1 30;paid 40;");
        stage.x.pay(0, 1);
        stage.cues("at 35 pay 0 0;");
        dueAgain("'paid' is the latest", stage.x, 41, 1);
        stage.house("row a;row x;leaves 1 40;paid 40;");
        stage.x.pay(0, 1);
        dueAgain("'paid' and 1", stage.x, 41, 1);
        stage.house("row a;row x;leaves 1 41;paid 40;");
        stage.x.pay(0, 1);
        dueAgain("as late", stage.x, 41, 1);
    }

    /** The like of which: LEVELS and HELD of all; how many moments later it first does. */
    private static void againOfLevelsAndHeld() {
        dueAgain("LEVELS alike, HELD not", houseOf("row a;up a held=3;down a held=9;"), 11, 1);
        dueAgain("one goes on while the other is at rest", houseOf("row ab;up b self<2;down b self=2;"), 3, 2);
        dueAgain("0 1 2 2 1 2 2 1", houseOf("row a;up a held=0;down a self>0;"), 1, 3);
    }

    /** Moments 600 at most. */
    private static void againUpTo600() {
        Stage stage = Stage.of("row a;leaves 0 596;");
        stage.x.pay(0, 1);
        dueAgain("HELD 3 in 599 and 600", stage.x, 599, 1);
        stage.house("row a;leaves 0 597;");
        stage.x.pay(0, 1);
        dueAgain("HELD 3 in 600 alone", stage.x, -1, -1);
        stage.house("row a;leaves 0 600;");
        dueAgain("from 600 on", stage.x, -1, -1);
        stage.house("row a;leaves 0 599;");
        dueAgain("from 599 on", stage.x, 599, 1);
        stage.house("row a;paid 599;");
        stage.x.pay(0, 1);
        dueAgain("behind 599", stage.x, -1, -1);
        stage.house("row a;paid 598;");
        stage.x.pay(0, 1);
        dueAgain("behind 598", stage.x, 599, 1);
        stage.house("row a;");
        stage.cues("at 600 still;");
        dueAgain("a CUE of 600", stage.x, -1, -1);
    }
}
