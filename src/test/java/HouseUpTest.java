/** Promises 17 to 21: anyway, up, calls, again, carries. */
public final class HouseUpTest {
    public static void main(String[] args) {
        anyway();
        upAndCalls();
        again();
        againFrom();
        carries();
        Stage.close("HouseUpTest");
    }

    private static void anyway() {
        Stage stage = Stage.of("row abc;up a self < 2;up b beside 2 > 0;");
        HouseClaps x = stage.x;
        x.pay(0, 1);
        x.pay(2, 1);
        Stage.due("many stand at 2", x.many(2, 2), 3);
        Stage.due("anyway at 0", x.anyway(0), 0);
        Stage.due("anyway at 2", x.anyway(2), 1);
        Stage.due("anyway at 4", x.anyway(4), 2);
        Stage.due("anyway at 600", x.anyway(600), 2);
        Stage.due("anyway at 601", x.anyway(601), -1);
        Stage.due("anyway at -1", x.anyway(-1), -1);
        stage.cues("at 0 pay 0 2;at 5 hiss 0 0;");
        Stage.due("CUES are done in both", x.anyway(0), 1);
        Stage.due("CUES are done in both, later", x.anyway(5), 2);
        x.hiss(1, 1);
        Stage.due("HISSING in both", x.anyway(4), 2);
        Stage.due("nobody was unpaid by it", x.count(6), 2);
    }

    private static void upAndCalls() {
        Stage stage = Stage.of("row ab;up a held = 0;down a self > 0;carry 1;");
        HouseClaps x = stage.x;
        Stage.due("up", x.up(), 2);
        Stage.due("calls to 1", x.calls(1), 0);
        Stage.due("calls to 2", x.calls(2), 1);
        Stage.due("calls to 4", x.calls(4), 1);
        Stage.due("calls to 5", x.calls(5), 2);
        Stage.due("calls to 600", x.calls(600), 200);
        Stage.due("calls to 601", x.calls(601), -1);
        Stage.due("calls to -1", x.calls(-1), -1);
        x.pay(1, 1);
        Stage.due("up at 0", x.up(), 0);
        Stage.due("calls at 0", x.calls(0), 1);
        Stage.due("calls once", x.calls(600), 1);
        Stage two = Stage.of("row ab;carry 3;");
        two.x.pay(0, 1);
        two.x.pay(1, 1);
        Stage.due("more than there are", two.x.up(), -1);
        Stage.due("no calls", two.x.calls(600), 0);
        two.house("row ab;carry 2;");
        two.x.pay(0, 1);
        two.x.pay(1, 1);
        Stage.due("just as many", two.x.up(), 0);
    }

    private static void dueAgain(String what, HouseClaps x, int m, int later) {
        Stage.due(what + ": M", x.again(0), m);
        Stage.due(what + ": later", x.again(1), later);
    }

    private static void again() {
        HouseClaps x = Stage.of("row a;up a held = 0;down a self > 0;").x;
        dueAgain("0 1 2 2 1 2 2 1", x, 1, 3);
        Stage.due("again 2", x.again(2), -1);
        Stage.due("again -1", x.again(-1), -1);
        dueAgain("still for good", Stage.of("row a;").x, 3, 1);
        dueAgain("pillars alone", Stage.of("row x;").x, 0, 1);
        dueAgain("empty", new HouseClaps(), 0, 1);
    }

    private static void againFrom() {
        Stage stage = Stage.of("row a;row x;leaves 1 20;");
        dueAgain("from the last leaves on", stage.x, 20, 1);
        stage.cues("at 30 free 0 0;");
        dueAgain("from the last CUE on", stage.x, 30, 1);
        stage.house("row a;paid 40;");
        dueAgain("nobody PAID", stage.x, 3, 1);
        stage.x.pay(0, 1);
        dueAgain("PAID: from 41 on", stage.x, 41, 1);
        stage.x.hiss(0, 1);
        dueAgain("PAID and HISSING: from 41 on", stage.x, 41, 1);
        stage.x.pay(0, 0);
        dueAgain("HISSING alone", stage.x, 3, 1);
        stage.cues("at 0 pay 0 0;at 1 free 0 0;");
        dueAgain("PAID by a CUE: from 41 on", stage.x, 41, 1);
        stage.cues("at 1 hiss 0 0;");
        dueAgain("HISSING by a CUE", stage.x, 3, 1);
        stage.house("row a;paid 600;");
        stage.x.pay(0, 1);
        dueAgain("PAID for good", stage.x, 3, 1);
        stage.house("row a;paid 599;");
        stage.x.pay(0, 1);
        Stage.due("from 600 on nothing comes again", stage.x.again(0), -1);
        Stage.due("from 600 on nothing comes later", stage.x.again(1), -1);
        stage.house("row a;paid 598;");
        stage.x.pay(0, 1);
        dueAgain("from 599 on", stage.x, 599, 1);
        stage.house("row a;leaves 0 600;");
        Stage.due("leaves at 600", stage.x.again(0), -1);
        stage.house("row a;leaves 0 598;");
        stage.x.pay(0, 1);
        Stage.due("too late to come again", stage.x.again(0), -1);
    }

    private static void carries() {
        Stage stage = Stage.of("row ab;up b self < 9;carry 2;");
        HouseClaps x = stage.x;
        Stage.due("does not carry", x.carries(0), 0);
        Stage.due("height", x.carries(1), 1);
        x.pay(0, 1);
        Stage.due("carries", x.carries(0), 1);
        Stage.due("height 2", x.carries(1), 2);
        Stage.due("carries 2", x.carries(2), -1);
        Stage.due("carries -1", x.carries(-1), -1);
        stage.house("row ab;carry 2;");
        stage.cues("at 60 pay 0 0;at 60 pay 0 1;at 61 free 0 0;");
        Stage.due("carries at 60", x.carries(0), 1);
        stage.cues("at 61 pay 0 0;at 61 pay 0 1;");
        Stage.due("does not carry at 61", x.carries(0), 0);
        Stage.due("no height at 61", x.carries(1), 0);
        Stage.due("but is up at 61", x.up(), 61);
    }
}
