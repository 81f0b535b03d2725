/** Each boundary that the Terms name of TOKENS, HOUSE, COND, CUES and FAULTS: a test a sentence. */
public final class TextEdgesTest {
    private static final String LETTERS = "abcdefghijklmnopqrstuvwxyz";
    private static final String ONE = "self>0";

    public static void main(String[] args) {
        wordsOfOneToEightLetters();
        numbersOfOneToThreeDigits();
        blanksBetweenThemOrNot();
        wordsAndNumbersGoOnThroughLettersAndDigits();
        noOtherByteIsAToken();
        houseOfAtMost900Bytes();
        houseWithoutLines();
        eachLineEndsWithItsSign();
        rowsOfKindsAndPillars();
        asManyLettersAsInTheFirstRow();
        eightRowsAtMost();
        rowZeroIsNearestToTheStage();
        kindsOfLaws();
        eachOfBothOnceForEachKind();
        lawsNeverHoldWithout();
        pricesOfRowsTold();
        pricesOf0To999();
        pricesOnce();
        leavesOfRowsTold();
        leavesOf0To600();
        leavesOnce();
        carryOf1To64();
        paidOf0To600();
        rowsElseAllAtOnce();
        theLastThreeOnce();
        levelIs1Or2();
        signsAreThree();
        numbersInACond();
        whatAOneIs();
        twentyOnes();
        eightWithinOneAnother();
        cuesOfAtMost400Bytes();
        cueMomentsOf0To600();
        cueMomentsNeverLess();
        cueSeats();
        thirtyCues();
        theFirstFaultAlongTheText();
        theLeastFaultOfAToken();
        faultAtTheEnd();
        faultAt900();
        tokensThatBeginAheadAreReadWhole();
        Stage.close("TextEdgesTest");
    }

    private static void dueLines(String house, int lines) {
        Stage stage = Stage.of("row ab;carry 2;");
        Stage.due("house " + house, stage.house(house), lines);
        Stage.due("no fault of " + house, stage.x.fault(), 0);
    }

    /** WORDS: small letters, 1 to 8. */
    private static void wordsOfOneToEightLetters() {
        dueLines("row a;", 1);
        dueLines("row abcdefxa;", 1);
        Stage.dueFault("row abcdefxab;", 1, 4);
        Stage.dueFault("row gggggggg;", 2, 4);
        Stage.dueFault("row ggggggggg;", 1, 4);
        Stage.dueFault("up abcdefgh self>0;", 2, 3);
        Stage.dueFault("up abcdefghi self>0;", 1, 3);
    }

    /** NUMBERS: 1 to 3 digits. */
    private static void numbersOfOneToThreeDigits() {
        dueLines("carry 5;", 1);
        dueLines("carry 05;", 1);
        dueLines("carry 005;", 1);
        Stage.dueFault("carry 0005;", 1, 6);
        Stage.dueFault("carry 999;", 2, 6);
        Stage.dueFault("carry 1000;", 1, 6);
        Stage.dueFault("carry 99999999999999999999;", 1, 6);
        Stage.dueFault("carry 4294967297;", 1, 6);
    }

    /** With blanks (32, 10) between them or not. */
    private static void blanksBetweenThemOrNot() {
        dueLines("up a(near 1>0)and(self<2);", 1);
        dueLines(" \n up \n a ( near \n 1 > 0 ) and ( self < 2 ) ; \n ", 1);
        dueLines("row\na;carry\n1;rows;", 3);
        dueLines("\n\n\n", 0);
        Stage.dueFault("rowa;", 1, 0);
        Stage.dueFault("carry1;", 1, 0);
        Stage.dueFault("up anear 1>0;", 2, 3);
        Stage.dueFault("row a;price 00 5;price 0 5;", 3, 23);
    }

    /** A WORD, NUMBER goes on as long as small letters and digits do; what is not as told is no TOKEN. */
    private static void wordsAndNumbersGoOnThroughLettersAndDigits() {
        Stage.dueFault("row a1;", 1, 4);
        Stage.dueFault("row 1a;", 1, 4);
        Stage.dueFault("carry 1a;", 1, 6);
        Stage.dueFault("carry 64paid 3;", 1, 6);
        Stage.dueFault("rows1;", 1, 0);
        Stage.dueFault("up a near1 > 0;", 1, 5);
        Stage.dueFault("up a near 1>0or self>0;", 1, 12);
        dueLines("up a near 1>0 or self>0;", 1);
        Stage.dueFault("up a self>0and self>0;", 1, 10);
        for (String mixed : new String[] {"a1", "1a", "ab12", "a1b2", "12ab", "a12", "ab1"}) {
            int n = mixed.length();
            Stage.dueFault("rows " + mixed + ";", 1, 5);
            Stage.dueFault("up a self " + mixed + ">0;", 1, 10);
            Stage.dueFault("up a " + mixed + "(self>0);", 1, 5);
            Stage.dueFault("up a (self>0 " + mixed + ");", 1, 13);
            Stage.dueFault(mixed + " ".repeat(5 - n), 1, 0);
        }
    }

    /** No byte but small letters, digits, blanks and the six signs is part of a TOKEN. */
    private static void noOtherByteIsAToken() {
        for (int b = 0; b < 256; b++) {
            String house = "row a" + (char) b + ";";
            if (b == 32 || b == 10) {
                dueLines(house, 1);
            } else if (b >= 'a' && b <= 'f' || b == 'x') {
                dueLines(house, 1);
            } else if (b >= 'a' && b <= 'z') {
                Stage.dueFault(house, 2, 4);
            } else if (b >= '0' && b <= '9') {
                Stage.dueFault(house, 1, 4);
            } else {
                Stage.dueFault(house, 1, b == ';' ? 6 : 5);
            }
            boolean blank = b == 32 || b == 10;
            Stage first = new Stage();
            Stage.due("byte " + b + " alone", first.house("" + (char) b), blank ? 0 : -1);
            Stage.due("fault of byte " + b + " alone", first.x.fault(), blank ? 0 : 1);
        }
    }

    /** A HOUSE is a text of at most 900 bytes. */
    private static void houseOfAtMost900Bytes() {
        dueLines("row a;" + " ".repeat(893), 1);
        dueLines("row a;" + " ".repeat(894), 1);
        Stage.dueFault("row a;" + " ".repeat(895), 1, 900);
        Stage.dueFault("row a;" + " ".repeat(934), 1, 900);
        dueLines(" ".repeat(900), 0);
        Stage.dueFault(" ".repeat(901), 1, 900);
        String law = "up a self>0" + " or self>0".repeat(19) + ";";
        String full = law + law.replace("up a", "up b") + law.replace("up a", "up c") + law.replace("up a", "up d");
        dueLines(full + " ".repeat(894 - full.length()) + "row a;", 5);
        Stage.dueFault(full + " ".repeat(895 - full.length()) + "row a;", 1, 900);
    }

    /** { LINE ; }: none at all, too. */
    private static void houseWithoutLines() {
        dueLines("", 0);
        Stage stage = Stage.of("row ab;carry 9;paid 9;rows;price 0 3;up a self<2;");
        Stage.due("an empty text is an empty HOUSE", stage.house(""), 0);
        int[] due = {0, 0, 0, 1, 600, 0, 0, 0, 0, 0};
        for (int what = 0; what < due.length; what++) {
            Stage.due("empty count " + what, stage.x.count(what), due[what]);
        }
        Stage.due("empty law", stage.x.law(0, 0), -1);
    }

    private static void eachLineEndsWithItsSign() {
        Stage.dueFault(";", 1, 0);
        Stage.dueFault("row a;;", 1, 6);
        Stage.dueFault("row a row a;", 1, 6);
        Stage.dueFault("carry 1 carry 2;", 1, 8);
        Stage.dueFault("rows", 1, 4);
        Stage.dueFault("price", 1, 5);
    }

    /** A seat for each letter: a to f: its KIND, x: a pillar. */
    private static void rowsOfKindsAndPillars() {
        for (int i = 0; i < LETTERS.length(); i++) {
            char letter = LETTERS.charAt(i);
            if (letter <= 'f') {
                Stage stage = Stage.of("row " + letter + ";");
                Stage.due("KIND of " + letter, stage.x.seat(0, 0), i);
                Stage.due("SEATS of " + letter, stage.x.count(2), 1);
            } else if (letter == 'x') {
                Stage stage = Stage.of("row x;");
                Stage.due("columns of a pillar", stage.x.count(1), 1);
                Stage.due("SEATS of a pillar", stage.x.count(2), 0);
            } else {
                Stage.dueFault("row " + letter + ";", 2, 4);
                Stage.dueFault("row a" + letter + "a;", 2, 4);
            }
        }
        Stage.dueFault("row 1;", 1, 4);
        Stage.dueFault("row ;", 1, 4);
        Stage.dueFault("row A;", 1, 4);
    }

    /** As many letters as in the first row. */
    private static void asManyLettersAsInTheFirstRow() {
        dueLines("row abc;row xxx;row fed;", 3);
        Stage.dueFault("row abc;row ab;", 2, 12);
        Stage.dueFault("row abc;row abcd;", 2, 12);
        Stage.dueFault("row abc;row abc;row ab;", 2, 20);
        Stage.dueFault("row a;row abcdefab;", 2, 10);
        dueLines("row abcdefab;row abcdefab;", 2);
        Stage.dueFault("row abcdefab;row abcdefa;", 2, 17);
    }

    /** 8 rows at most. */
    private static void eightRowsAtMost() {
        dueLines("row a;".repeat(7), 7);
        dueLines("row a;".repeat(8), 8);
        Stage.dueFault("row a;".repeat(9), 4, 48);
        Stage.dueFault("row a;".repeat(8) + "carry 3;row a;", 4, 56);
        Stage.dueFault("row a;".repeat(8) + "row zz;", 4, 48);
        dueLines("row a;".repeat(8) + "rows;", 9);
    }

    private static void rowZeroIsNearestToTheStage() {
        Stage stage = Stage.of("row a;row b;price 0 1;price 1 2;");
        stage.x.pay(0, 1);
        Stage.due("row 0 is told first", stage.x.seat(0, 1), 1);
        Stage.due("row 0 stands before row 1", stage.x.sees(1, 0, 1, 2), 1);
        Stage.due("nobody stands before row 0", stage.x.sees(0, 0, 1, 2), 0);
    }

    /** KIND: a WORD of one letter a to f. */
    private static void kindsOfLaws() {
        for (int i = 0; i < LETTERS.length(); i++) {
            String kind = LETTERS.substring(i, i + 1);
            if (i < 6) {
                dueLines("up " + kind + " self>0;", 1);
                dueLines("down " + kind + " self>0;", 1);
            } else {
                Stage.dueFault("up " + kind + " self>0;", 2, 3);
                Stage.dueFault("down " + kind + " self>0;", 2, 5);
            }
        }
        Stage.dueFault("up aa self>0;", 2, 3);
        Stage.dueFault("up ab self>0;", 2, 3);
        Stage.dueFault("up self>0;", 2, 3);
        Stage.dueFault("up 0 self>0;", 1, 3);
        Stage.dueFault("up ;", 1, 3);
        Stage.dueFault("down ;", 1, 5);
        Stage.dueFault("up a;", 1, 4);
        Stage.dueFault("down a;", 1, 6);
        Stage.dueFault("up (self>0);", 1, 3);
    }

    /** Each of both once for each KIND. */
    private static void eachOfBothOnceForEachKind() {
        StringBuilder all = new StringBuilder();
        for (int i = 0; i < 6; i++) {
            String kind = LETTERS.substring(i, i + 1);
            all.append("up ").append(kind).append(" self>0;down ").append(kind).append(" self>0;");
        }
        dueLines(all.toString(), 12);
        for (int i = 0; i < 6; i++) {
            String kind = LETTERS.substring(i, i + 1);
            Stage.dueFault(all + "up " + kind + " self>0;", 3, all.length() + 3);
            Stage.dueFault(all + "down " + kind + " self>0;", 3, all.length() + 5);
        }
        Stage.dueFault("up a self>0;up a", 3, 15);
    }

    /** Never without: who has no law stays as he is. */
    private static void lawsNeverHoldWithout() {
        Stage stage = Stage.of("row abc;up b self<2;down c self>0;paid 0;");
        stage.x.pay(0, 1);
        stage.x.pay(2, 1);
        Stage.due("no law: stands on", stage.x.at(0, 600, 0), 2);
        Stage.due("up alone: stands", stage.x.at(1, 600, 0), 2);
        Stage.due("down alone: still", stage.x.at(2, 600, 0), 0);
        Stage.due("no up", stage.x.law(2, 0), -1);
        Stage.due("no down", stage.x.law(1, 1), -1);
    }

    /** 'price' ROW N: a row told. */
    private static void pricesOfRowsTold() {
        Stage.dueFault("price 0 5;", 2, 6);
        Stage.dueFault("price 0 5;row a;", 2, 6);
        Stage.dueFault("row a;price 1 5;row a;", 2, 12);
        dueLines("row a;price 0 5;row a;price 1 5;", 4);
        dueLines("row a;".repeat(8) + "price 7 5;", 9);
        Stage.dueFault("row a;".repeat(8) + "price 8 5;", 2, 54);
        Stage.dueFault("row a;price 999 5;", 2, 12);
        Stage.dueFault("row a;price x 5;", 1, 12);
    }

    /** 0 to 999; 10 without. */
    private static void pricesOf0To999() {
        Stage stage = Stage.of("row a;row a;row a;price 0 0;price 1 999;");
        Stage.due("price 0", stage.x.seat(0, 1), 0);
        Stage.due("price 999", stage.x.seat(1, 1), 999);
        Stage.due("price without", stage.x.seat(2, 1), 10);
        Stage.dueFault("row a;price 0 1000;", 1, 14);
        Stage.dueFault("row a;price 0;", 1, 13);
    }

    private static void pricesOnce() {
        dueLines("row a;row a;price 1 5;price 0 5;", 4);
        Stage.dueFault("row a;row a;price 1 5;price 1 5;", 3, 28);
        Stage.dueFault("row a;row a;price 0 10;price 0 10;", 3, 29);
        Stage.dueFault("row a;price 0 5;price 0", 3, 22);
        Stage.dueFault("row a;row a;price 0 5;price 1 5;price 0 5;", 3, 38);
        Stage.dueFault("row a;row a;price 1 5;price 0 5;price 1 5;", 3, 38);
        dueLines("row a;price 0 5;leaves 0 5;", 3);
    }

    /** 'leaves' ROW T: likewise. */
    private static void leavesOfRowsTold() {
        Stage.dueFault("leaves 0 5;", 2, 7);
        Stage.dueFault("leaves 0 5;row a;", 2, 7);
        Stage.dueFault("row a;leaves 1 5;", 2, 13);
        dueLines("row a;".repeat(8) + "leaves 7 5;", 9);
        Stage.dueFault("row a;".repeat(8) + "leaves 8 5;", 2, 55);
        Stage.dueFault("row a;leaves a 5;", 1, 13);
    }

    /** 0 to 600. */
    private static void leavesOf0To600() {
        Stage stage = Stage.of("row a;row a;row a;leaves 0 0;leaves 1 600;");
        Stage.due("leaves 0", stage.x.seat(0, 2), 0);
        Stage.due("leaves 600", stage.x.seat(1, 2), 600);
        Stage.due("never leaves", stage.x.seat(2, 2), -1);
        Stage.dueFault("row a;leaves 0 601;", 2, 15);
        Stage.dueFault("row a;leaves 0 999;", 2, 15);
        Stage.dueFault("row a;leaves 0;", 1, 14);
    }

    private static void leavesOnce() {
        dueLines("row a;row a;leaves 1 5;leaves 0 5;", 4);
        Stage.dueFault("row a;leaves 0 0;leaves 0 0;", 3, 24);
        Stage.dueFault("row a;row a;leaves 0 5;leaves 1 5;leaves 0 5;", 3, 41);
        Stage.dueFault("row a;row a;leaves 1 600;leaves 1 600;", 3, 32);
    }

    /** 'carry' N: 1 to 64; 1 without. */
    private static void carryOf1To64() {
        Stage.due("carry without", Stage.of("row a;").x.count(3), 1);
        Stage.due("carry 1", Stage.of("carry 1;").x.count(3), 1);
        Stage.due("carry 64", Stage.of("carry 64;").x.count(3), 64);
        Stage.dueFault("carry 0;", 2, 6);
        Stage.dueFault("carry 65;", 2, 6);
        Stage.dueFault("carry ;", 1, 6);
    }

    /** 'paid' N: 0 to 600; 600 without. */
    private static void paidOf0To600() {
        Stage.due("paid without", Stage.of("row a;").x.count(4), 600);
        Stage.due("paid 0", Stage.of("paid 0;").x.count(4), 0);
        Stage.due("paid 600", Stage.of("paid 600;").x.count(4), 600);
        Stage.dueFault("paid 601;", 2, 5);
        Stage.dueFault("paid;", 1, 4);
    }

    private static void rowsElseAllAtOnce() {
        Stage.due("all at once", Stage.of("row a;").x.count(5), 0);
        Stage.due("row by row", Stage.of("rows;").x.count(5), 1);
        Stage.dueFault("rows 1;", 1, 5);
        Stage.dueFault("rows rows;", 1, 5);
    }

    /** The last three once: at the WORD that is told again. */
    private static void theLastThreeOnce() {
        Stage.dueFault("carry 1;carry 1;", 3, 8);
        Stage.dueFault("paid 600;paid 600;", 3, 9);
        Stage.dueFault("rows;rows;", 3, 5);
        Stage.dueFault("rows;carry 2;paid 3;row a; rows;", 3, 27);
        dueLines("carry 1;paid 600;rows;", 3);
    }

    /** LEVEL: 1 or 2. */
    private static void levelIs1Or2() {
        dueLines("up a near 1>0;", 1);
        dueLines("up a near 2>0;", 1);
        dueLines("up a near 002>0;", 1);
        Stage.dueFault("up a near 0>0;", 2, 10);
        Stage.dueFault("up a near 3>0;", 2, 10);
        Stage.dueFault("up a near 999>0;", 2, 10);
        Stage.dueFault("up a near>0;", 1, 9);
        Stage.dueFault("up a self 1>0;", 1, 10);
        Stage.dueFault("up a held 2>0;", 1, 10);
    }

    /** SIGN: < = >. */
    private static void signsAreThree() {
        dueLines("up a self<1;", 1);
        dueLines("up a self=1;", 1);
        dueLines("up a self>1;", 1);
        Stage.dueFault("up a self;1;", 1, 9);
        Stage.dueFault("up a self?1;", 1, 9);
        Stage.dueFault("up a self 1;", 1, 10);
        Stage.dueFault("up a self(1;", 1, 9);
        Stage.dueFault("up a self>=1;", 1, 10);
        Stage.dueFault("up a self<>1;", 1, 10);
        Stage.dueFault("up a near 1;", 1, 11);
    }

    private static void numbersInACond() {
        dueLines("up a self>0;", 1);
        dueLines("up a near 1<999;", 1);
        Stage.dueFault("up a self>1000;", 1, 10);
        Stage.dueFault("up a self>;", 1, 10);
        Stage.dueFault("up a self>self;", 1, 10);
        Stage.dueFault("up a self>(1);", 1, 10);
    }

    /** ONE: 'not' ONE | ( COND ) | AREA .. | ( 'self' | 'held' ) ..: nothing else. */
    private static void whatAOneIs() {
        for (String area : new String[] {"near", "ahead", "beside", "behind", "seen", "house"}) {
            dueLines("up a " + area + " 1>0;", 1);
            Stage.dueFault("up a " + area + "s 1>0;", 1, 5);
        }
        Stage.dueFault("up a ;", 1, 5);
        Stage.dueFault("up a 1;", 1, 5);
        Stage.dueFault("up a and self>0;", 1, 5);
        Stage.dueFault("up a or self>0;", 1, 5);
        Stage.dueFault("up a );", 1, 5);
        Stage.dueFault("up a ();", 1, 6);
        Stage.dueFault("up a not;", 1, 8);
        Stage.dueFault("up a not and self>0;", 1, 9);
        Stage.dueFault("up a (self>0;", 1, 12);
        Stage.dueFault("up a self>0);", 1, 11);
        Stage.dueFault("up a (self>0 self>0);", 1, 13);
        Stage.dueFault("up a self>0 and;", 1, 15);
        Stage.dueFault("up a self>0 or or self>0;", 1, 15);
    }

    /** 20 ONES in a COND. */
    private static void twentyOnes() {
        String twenty = ONE + (" and " + ONE).repeat(19);
        dueLines("up a " + twenty + ";", 1);
        Stage.dueFault("up a " + twenty + " and " + ONE + ";", 4, 5 + twenty.length() + 5);
        Stage.dueFault("up a " + twenty + " and (" + ONE + ");", 4, 5 + twenty.length() + 5);
        Stage.dueFault("up a " + twenty + " or not " + ONE + ";", 4, 5 + twenty.length() + 4);
        Stage.due("each 'not' is one", Stage.of("up a " + ("not " + ONE + " or ").repeat(9) + "not " + ONE + ";").x.law(0, 0), 20);
        String nots = ("not " + ONE + " or ").repeat(10);
        Stage.dueFault("up a " + nots + ONE + ";", 4, 5 + nots.length());
        String brackets = ("(" + ONE + ")or").repeat(10);
        Stage.dueFault("up a " + brackets + "(" + ONE + ");", 4, 5 + brackets.length());
        String open = "(" + ONE + (" or " + ONE).repeat(18);
        dueLines("up a " + open + ");", 1);
        Stage.dueFault("up a " + open + " or " + ONE + ");", 4, 5 + open.length() + 4);
        Stage.dueFault("up a " + open + ") or " + ONE + ";", 4, 5 + open.length() + 5);
        dueLines("up a " + twenty + ";down a " + twenty + ";up b " + twenty + ";", 3);
    }

    /** 8 within one another: a ninth within, at its first TOKEN. */
    private static void eightWithinOneAnother() {
        dueLines("up a " + "not ".repeat(7) + ONE + ";", 1);
        Stage.dueFault("up a " + "not ".repeat(8) + ONE + ";", 4, 37);
        Stage.dueFault("up a " + "not ".repeat(9) + ONE + ";", 4, 37);
        Stage.dueFault("up a " + "not ".repeat(8) + "(" + ONE + ");", 4, 37);
        dueLines("up a " + "(".repeat(7) + ONE + ")".repeat(7) + ";", 1);
        Stage.dueFault("up a " + "(".repeat(8) + ONE + ")".repeat(8) + ";", 4, 13);
        dueLines("up a " + "not (".repeat(3) + "not " + ONE + ")))" + ";", 1);
        dueLines("up a " + "(".repeat(7) + ONE + " or " + ONE + ")".repeat(7) + " or " + ONE + ";", 1);
        Stage.dueFault("up a " + ONE + " or " + "(".repeat(7) + ONE + " or not " + ONE + ")".repeat(7) + ";", 4,
            5 + 6 + 4 + 7 + 6 + 4 + 4);
        dueLines("up a " + ("(".repeat(7) + ONE + ")".repeat(7) + " or ").repeat(2) + ONE + ";", 1);
    }

    /** CUES are a text of at most 400 bytes. */
    private static void cuesOfAtMost400Bytes() {
        Stage stage = Stage.of("row ax;row aa;");
        Stage.due("none at all", stage.cues(""), 0);
        Stage.due("399 bytes", stage.cues("at 0 still;" + " ".repeat(388)), 1);
        Stage.due("400 bytes", stage.cues(" ".repeat(389) + "at 0 still;"), 1);
        stage.dueCueFault("at 0 still;" + " ".repeat(390), 1, 400);
        stage.dueCueFault(" ".repeat(390) + "at 0 still;", 1, 400);
        stage.dueCueFault(" ".repeat(940), 1, 400);
        stage.dueCueFault("at 0 nill;" + " ".repeat(930), 1, 5);
        stage.dueCueFault(" ".repeat(397) + "at 601 still;", 1, 400);
        stage.dueCueFault(" ".repeat(396) + "at 601 still;", 2, 399);
        stage.dueCueFault(" ".repeat(396) + "at 6000 still;", 1, 399);
    }

    /** 'at' T: 0 to 600. */
    private static void cueMomentsOf0To600() {
        Stage stage = Stage.of("row a;");
        Stage.due("at 0 and 600", stage.cues("at 0 still;at 600 still;"), 2);
        Stage.due("T 0", stage.x.cue(0, 0), 0);
        Stage.due("T 600", stage.x.cue(1, 0), 600);
        stage.dueCueFault("at 601 still;", 2, 3);
        stage.dueCueFault("at 999 still;", 2, 3);
        stage.dueCueFault("at still;", 1, 3);
        stage.dueCueFault("at 0 still;601 still;", 1, 11);
    }

    /** None less than the one ahead. */
    private static void cueMomentsNeverLess() {
        Stage stage = Stage.of("row a;");
        Stage.due("like ones", stage.cues("at 7 still;at 7 still;at 8 still;"), 3);
        stage.dueCueFault("at 7 still;at 6 still;", 2, 14);
        stage.dueCueFault("at 7 still;at 7 still;at 0 still;", 2, 25);
        stage.dueCueFault("at 600 still;at 599 still;", 2, 16);
        Stage.due("anew from the first", stage.cues("at 0 still;"), 1);
    }

    /** ROW: no such row; COLUMN: no such one, or a pillar. */
    private static void cueSeats() {
        Stage stage = Stage.of("row ax;row aa;");
        for (String deed : new String[] {"pay ", "hiss", "free"}) {
            Stage.due(deed + " the last", stage.cues("at 0 " + deed + " 1 1;"), 1);
            Stage.due(deed + " the first", stage.cues("at 0 " + deed + " 0 0;"), 1);
            stage.dueCueFault("at 0 " + deed + " 2 0;", 2, 10);
            stage.dueCueFault("at 0 " + deed + " 2 9;", 2, 10);
            stage.dueCueFault("at 0 " + deed + " 0 2;", 2, 12);
            stage.dueCueFault("at 0 " + deed + " 0 1;", 2, 12);
            stage.dueCueFault("at 0 " + deed + " 0;", 1, 11);
            stage.dueCueFault("at 0 " + deed + ";", 1, 9);
        }
        stage.dueCueFault("at 0 still 0 0;", 1, 11);
        stage.house("");
        Stage.due("still in an empty HOUSE", stage.cues("at 0 still;"), 1);
        stage.dueCueFault("at 0 pay 0 0;", 2, 9);
        stage.house("row x;");
        stage.dueCueFault("at 0 free 0 0;", 2, 12);
    }

    /** 4 a 31st (at its 'at'). */
    private static void thirtyCues() {
        Stage stage = Stage.of("row a;");
        Stage.due("thirty", stage.cues("at 0 still;".repeat(30)), 30);
        stage.dueCueFault("at 0 still;".repeat(31), 4, 330);
        stage.dueCueFault("at 1 still;".repeat(30) + "at 0 still;", 4, 330);
        stage.dueCueFault("at 0 still;".repeat(30) + "at", 4, 330);
        stage.dueCueFault("at 0 still;".repeat(30) + "still;", 1, 330);
    }

    private static void theFirstFaultAlongTheText() {
        Stage.dueFault("row g;row a;row;", 2, 4);
        Stage.dueFault("carry 65;carry 1;?", 2, 6);
        Stage.dueFault("carry 1;carry 65;?", 3, 8);
        Stage.dueFault("row a;?;carry 0;", 1, 6);
        Stage.dueFault("up a near 3 ?;", 2, 10);
        Stage.of("row a;").dueCueFault("at 601 pay 9 9;", 2, 3);
    }

    /** Of one TOKEN the least. */
    private static void theLeastFaultOfAToken() {
        String twenty = ONE + (" or " + ONE).repeat(19);
        Stage.dueFault("up a " + twenty + " or ?;", 1, 5 + twenty.length() + 4);
        Stage.dueFault("up a " + twenty + " or or;", 1, 5 + twenty.length() + 4);
        Stage.dueFault("up a " + "not ".repeat(8) + ";", 1, 37);
        Stage.dueFault("up a " + "not ".repeat(8) + "5;", 1, 37);
        Stage.dueFault("carry 1;carry1;", 1, 8);
        Stage.dueFault("row a;".repeat(8) + "rowa;", 1, 48);
    }

    /** The end: how many bytes there are. */
    private static void faultAtTheEnd() {
        String house = "row a;price 0 5;up a not(near 1>0);";
        dueLines(house.substring(0, 6), 1);
        dueLines(house.substring(0, 16), 2);
        dueLines(house, 3);
        for (int n : new int[] {3, 5, 11, 13, 15, 18, 20, 24, 25, 29, 31, 32, 33, 34}) {
            Stage.dueFault(house.substring(0, n), 1, n);
        }
        Stage.dueFault("row a;row   ", 1, 12);
        Stage stage = Stage.of("row a;");
        String cues = "at 5 pay 0 0;";
        for (int n : new int[] {2, 4, 8, 10, 12}) {
            stage.dueCueFault(cues.substring(0, n), 1, n);
        }
    }

    /** 900, if there are more and no FAULT is ahead. */
    private static void faultAt900() {
        Stage.dueFault("row a" + " ".repeat(894), 1, 899);
        Stage.dueFault("row a" + " ".repeat(895), 1, 900);
        Stage.dueFault("row a" + " ".repeat(900), 1, 900);
        Stage.dueFault("row a" + " ".repeat(900) + ";", 1, 900);
        Stage.dueFault(" ".repeat(899) + "?" + " ".repeat(40), 1, 899);
        Stage.dueFault(" ".repeat(900) + "?" + " ".repeat(39), 1, 900);
        Stage.dueFault(" ".repeat(897) + "row ??", 1, 900);
        Stage.dueFault("row a;" + " ".repeat(894) + "row a;", 1, 900);
    }

    /** TOKENS that begin ahead of it are read whole. */
    private static void tokensThatBeginAheadAreReadWhole() {
        Stage.dueFault(" ".repeat(895) + "row ag;", 2, 899);
        Stage.dueFault(" ".repeat(895) + "row ab;", 1, 900);
        Stage.dueFault(" ".repeat(895) + "row abcdefabc;", 1, 899);
        Stage.dueFault(" ".repeat(893) + "carry 065;", 2, 899);
        Stage.dueFault(" ".repeat(893) + "carry 0064;", 1, 899);
        Stage.dueFault(" ".repeat(893) + "carry 06a;", 1, 899);
        Stage.dueFault(" ".repeat(892) + "carry 6 ;", 1, 900);
        Stage.dueFault(" ".repeat(899) + "rowing;", 1, 899);
        Stage.dueFault(" ".repeat(899) + "carry 0;", 1, 900);
        Stage.dueFault("carry 1;" + " ".repeat(891) + "carry 1;", 3, 899);
        Stage.dueFault("carry 1;" + " ".repeat(892) + "carry 1;", 1, 900);
        Stage.dueFault("row a;".repeat(8) + " ".repeat(851) + "row a;", 4, 899);
        Stage.dueFault(" ".repeat(899) + "a".repeat(41), 1, 899);
        Stage.dueFault(" ".repeat(893) + "carry " + "1".repeat(41), 1, 899);
        Stage.dueFault("a".repeat(940), 1, 0);
        Stage.dueFault(" ".repeat(900) + "a".repeat(40), 1, 900);
        Stage full = Stage.of("row a;");
        full.dueCueFault(" ".repeat(399) + "a".repeat(541), 1, 399);
        full.dueCueFault(" ".repeat(396) + "at " + "1".repeat(541), 1, 399);
    }
}
