/** Promises 4, 5 and 7: house, fault, law, with every FAULT of a HOUSE. */
public final class HouseTextTest {
    public static void main(String[] args) {
        good();
        tokens();
        rows();
        laws();
        depthAndMany();
        numbers();
        twice();
        limit();
        law();
        Stage.close("HouseTextTest");
    }

    private static void good() {
        Stage stage = new Stage();
        Stage.due("empty", stage.house(""), 0);
        Stage.due("blanks", stage.house(" \n "), 0);
        Stage.due("one row", stage.house("row a;"), 1);
        Stage.due("no blanks", stage.house("row a;up a(near 1>0)or not held<1;rows;"), 3);
        Stage.due("many blanks", stage.house(" row\n a ;\n up a near 1 > 0 ; "), 2);
        Stage.due("eight rows of eight",
            stage.house("row abcdefxa;".repeat(8)), 8);
        Stage.due("rows", stage.x.count(0), 8);
        Stage.due("columns", stage.x.count(1), 8);
        Stage.due("seats", stage.x.count(2), 56);
        Stage.due("laws ahead of rows", stage.house("up f self > 0;carry 64;paid 0;rows;row f;price 0 0;leaves 0 600;"), 7);
        Stage.due("numbers with zeros ahead", stage.house("row a;price 00 007;carry 01;up a near 02 = 000;"), 4);
        Stage.due("price", stage.x.seat(0, 1), 7);
        Stage.due("pillars alone", stage.house("row xx;"), 1);
        Stage.due("seats of pillars", stage.x.count(2), 0);
        Stage.due("fault without", stage.x.fault(), 0);
        stage.house("?");
        Stage.due("fault", stage.x.fault(), 1);
        stage.house("row a;");
        Stage.due("fault behind a good one", stage.x.fault(), 0);
        stage.x.pay(0, 1);
        stage.x.hiss(0, 1);
        stage.cues("at 0 still;");
        stage.house("ro");
        Stage.due("PAID stays behind a FAULT", stage.x.count(6), 1);
        Stage.due("HISSING stays behind a FAULT", stage.x.count(7), 1);
        Stage.due("CUES stay behind a FAULT", stage.x.count(9), 1);
        stage.house("row a;");
        Stage.due("nobody PAID in a new HOUSE", stage.x.count(6), 0);
        Stage.due("nobody HISSES in a new HOUSE", stage.x.count(7), 0);
        Stage.due("no CUES in a new HOUSE", stage.x.count(9), 0);
    }

    private static void tokens() {
        Stage.dueFault("Row a;", 1, 0);
        Stage.dueFault("row a;;", 1, 6);
        Stage.dueFault("row a,", 1, 5);
        Stage.dueFault("row a.", 1, 5);
        Stage.dueFault("row a\t;", 1, 5);
        Stage.dueFault("row a" + (char) 225 + ";", 1, 5);
        Stage.dueFault("row aA;", 1, 5);
        Stage.dueFault("row a1;", 1, 4);
        Stage.dueFault("row 1a;", 1, 4);
        Stage.dueFault("row1 a;", 1, 0);
        Stage.dueFault("  foo", 1, 2);
        Stage.dueFault("now a;", 1, 0);
        Stage.dueFault("ro a;", 1, 0);
        Stage.dueFault("rowss;", 1, 0);
        Stage.dueFault("12", 1, 0);
        Stage.dueFault("row a", 1, 5);
        Stage.dueFault("row a  ", 1, 7);
        Stage.dueFault("row", 1, 3);
        Stage.dueFault("row a;row", 1, 9);
        Stage.dueFault("row a b;", 1, 6);
        Stage.dueFault("abcdefgh a;", 1, 0);
    }

    private static void rows() {
        Stage.dueFault("row ;", 1, 4);
        Stage.dueFault("row 1;", 1, 4);
        Stage.dueFault("row ag;", 2, 4);
        Stage.dueFault("row row;", 2, 4);
        Stage.dueFault("row az;", 2, 4);
        Stage.dueFault("row abcdefaba;", 1, 4);
        Stage.dueFault("row ab;row a;", 2, 11);
        Stage.dueFault("row ab;row abc;", 2, 11);
        Stage.dueFault("row a;".repeat(8) + "row 1;", 4, 48);
        Stage.dueFault("row a;".repeat(8) + "row", 4, 48);
        Stage.dueFault("row aa;".repeat(9), 4, 56);
    }

    private static void laws() {
        Stage.dueFault("up", 1, 2);
        Stage.dueFault("up 1", 1, 3);
        Stage.dueFault("up x near 1 > 0;", 2, 3);
        Stage.dueFault("up g near 1 > 0;", 2, 3);
        Stage.dueFault("up near 1 > 0;", 2, 3);
        Stage.dueFault("down ab near 1 > 0;", 2, 5);
        Stage.dueFault("up a ;", 1, 5);
        Stage.dueFault("up a and;", 1, 5);
        Stage.dueFault("up a near;", 1, 9);
        Stage.dueFault("up a near 0 > 0;", 2, 10);
        Stage.dueFault("up a near 3 > 0;", 2, 10);
        Stage.dueFault("up a near one > 0;", 1, 10);
        Stage.dueFault("up a near 1 1;", 1, 12);
        Stage.dueFault("up a near 1 >= 1;", 1, 13);
        Stage.dueFault("up a near 1 > a;", 1, 14);
        Stage.dueFault("up a near 1 > 1000;", 1, 14);
        Stage.dueFault("up a self 1 > 0;", 1, 10);
        Stage.dueFault("up a held;", 1, 9);
        Stage.dueFault("up a not;", 1, 8);
        Stage.dueFault("up a ();", 1, 6);
        Stage.dueFault("up a (self>0;", 1, 12);
        Stage.dueFault("up a self>0);", 1, 11);
        Stage.dueFault("up a self>0 or;", 1, 14);
        Stage.dueFault("up a self>0 and or self>0;", 1, 16);
        Stage.dueFault("up a self>0 not self>0;", 1, 12);
        Stage.dueFault("up a self > 0;up a self > 0;", 3, 17);
        Stage.dueFault("down f self > 0;up f self>0;down f ?", 3, 33);
        Stage stage = new Stage();
        Stage.due("up and down of a", stage.house("up a self > 0;down a self > 0;"), 2);
    }

    private static void depthAndMany() {
        Stage stage = new Stage();
        Stage.due("8 within", stage.house("up a " + "not ".repeat(7) + "self>0;"), 1);
        Stage.due("8 within, ONES", stage.x.law(0, 0), 8);
        Stage.dueFault("up a " + "not ".repeat(8) + "self>0;", 4, 37);
        Stage.dueFault("up a " + "not ".repeat(8) + "?", 1, 37);
        Stage.dueFault("up a " + "not ".repeat(8) + ";", 1, 37);
        Stage.due("8 brackets within", stage.house("up a " + "(".repeat(7) + "self>0" + ")".repeat(7) + ";"), 1);
        Stage.dueFault("up a " + "(".repeat(8) + "self>0" + ")".repeat(8) + ";", 4, 13);
        String many = "self>0" + " or self>0".repeat(19);
        Stage.due("20 ONES", stage.house("up b " + many + ";"), 1);
        Stage.due("20 ONES told", stage.x.law(1, 0), 20);
        Stage.dueFault("up b " + many + " or self>0;", 4, 5 + many.length() + 4);
        Stage.dueFault("up b " + many + " or ;", 1, 5 + many.length() + 4);
        Stage.dueFault("up b " + many + " or not", 4, 5 + many.length() + 4);
        Stage.due("20 ONES in each of two", stage.house("up b " + many + ";down b " + many + ";"), 2);
        String nested = "(self>0" + " or self>0".repeat(18) + ")";
        Stage.due("20 ONES with a bracket", stage.house("up b " + nested + ";"), 1);
        Stage.dueFault("up b " + nested + " and self>0;", 4, 5 + nested.length() + 5);
    }

    private static void numbers() {
        Stage.dueFault("price 0 5;", 2, 6);
        Stage.dueFault("price 0 5;row a;", 2, 6);
        Stage.dueFault("row a;price 1 5;", 2, 12);
        Stage.dueFault("row a;price a 5;", 1, 12);
        Stage.dueFault("row a;price 0;", 1, 13);
        Stage.dueFault("row a;price 0 1000;", 1, 14);
        Stage.dueFault("row a;leaves 0 601;", 2, 15);
        Stage.dueFault("row a;leaves 1 0;", 2, 13);
        Stage.dueFault("carry 0;", 2, 6);
        Stage.dueFault("carry 65;", 2, 6);
        Stage.dueFault("carry;", 1, 5);
        Stage.dueFault("paid 601;", 2, 5);
        Stage.dueFault("paid ;", 1, 5);
        Stage.dueFault("rows 1;", 1, 5);
        Stage stage = new Stage();
        Stage.due("edges", stage.house("row a;price 0 999;leaves 0 600;carry 64;paid 600;rows;"), 6);
        Stage.due("price 999", stage.x.seat(0, 1), 999);
        Stage.due("leaves 600", stage.x.seat(0, 2), 600);
        Stage.due("carry 64", stage.x.count(3), 64);
        Stage.due("paid 600", stage.x.count(4), 600);
        Stage.due("by rows", stage.x.count(5), 1);
    }

    private static void twice() {
        Stage.dueFault("row a;price 0 5;price 0 6;", 3, 22);
        Stage.dueFault("row a;row b;leaves 1 5;leaves 1 6;", 3, 30);
        Stage.dueFault("row a;leaves 0 0;leaves 0 6;", 3, 24);
        Stage.dueFault("row a;price 0 10;price 0 10;", 3, 23);
        Stage.dueFault("carry 1;carry 2;", 3, 8);
        Stage.dueFault("carry 1;carry", 3, 8);
        Stage.dueFault("paid 600;paid 2;", 3, 9);
        Stage.dueFault("rows;rows;", 3, 5);
    }

    private static void limit() {
        Stage stage = new Stage();
        Stage.due("900 bytes", stage.house("row a;" + " ".repeat(894)), 1);
        Stage.dueFault("row a;" + " ".repeat(895), 1, 900);
        Stage.dueFault(" ".repeat(895) + "row a;", 1, 900);
        Stage.dueFault(" ".repeat(894) + "row", 1, 897);
        Stage.due("ends at 900", stage.house(" ".repeat(894) + "row a;"), 1);
        Stage.dueFault("Row a;" + " ".repeat(930), 1, 0);
        Stage.dueFault(" ".repeat(892) + "carry 100;", 2, 898);
        Stage.dueFault(" ".repeat(892) + "carry 1000;", 1, 898);
        Stage.dueFault(" ".repeat(892) + "carry 640 ;", 2, 898);
        Stage.dueFault(" ".repeat(892) + "carry 064;", 1, 900);
        Stage.dueFault(" ".repeat(899) + "foo", 1, 899);
        Stage.dueFault(" ".repeat(900) + "foo", 1, 900);
        Stage.dueFault(" ".repeat(899) + "rows;", 1, 900);
    }

    private static void law() {
        Stage stage = Stage.of("up a near 1 > 0;down f not (self > 0 and held = 3);");
        Stage.due("law up a", stage.x.law(0, 0), 1);
        Stage.due("law down a", stage.x.law(0, 1), -1);
        Stage.due("law down f: not, bracket and two", stage.x.law(5, 1), 4);
        Stage.due("law up f", stage.x.law(5, 0), -1);
        Stage.due("law 6", stage.x.law(6, 0), -1);
        Stage.due("law -1", stage.x.law(-1, 0), -1);
        Stage.due("law what 2", stage.x.law(0, 2), -1);
        Stage.due("law what -1", stage.x.law(0, -1), -1);
        stage.house("row a;");
        Stage.due("law of a new HOUSE", stage.x.law(0, 0), -1);
    }
}
