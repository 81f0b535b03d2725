/** Promises 6, 8, 9 and 42: seat, pay, hiss, count. */
public final class SeatTest {
    public static void main(String[] args) {
        seat();
        payAndHiss();
        count();
        Stage.close("SeatTest");
    }

    private static void seat() {
        Stage stage = Stage.of("row axf;row bcd;price 1 3;leaves 1 0;");
        HouseClaps x = stage.x;
        Stage.due("kind a", x.seat(0, 0), 0);
        Stage.due("kind f", x.seat(2, 0), 5);
        Stage.due("kind d", x.seat(5, 0), 3);
        Stage.due("price without", x.seat(2, 1), 10);
        Stage.due("price", x.seat(3, 1), 3);
        Stage.due("leaves never", x.seat(0, 2), -1);
        Stage.due("leaves at 0", x.seat(5, 2), 0);
        Stage.due("not PAID", x.seat(0, 3), 0);
        Stage.due("does not HISS", x.seat(0, 4), 0);
        Stage.dueThrows("a pillar", () -> x.seat(1, 0));
        Stage.dueThrows("seat 6", () -> x.seat(6, 0));
        Stage.dueThrows("seat -1", () -> x.seat(-1, 0));
        Stage.dueThrows("seat 64", () -> x.seat(64, 0));
        Stage.dueThrows("what 5", () -> x.seat(0, 5));
        Stage.dueThrows("what -1", () -> x.seat(0, -1));
    }

    private static void payAndHiss() {
        HouseClaps x = Stage.of("row axa;").x;
        Stage.due("pay", x.pay(2, 1), true);
        Stage.due("PAID", x.seat(2, 3), 1);
        Stage.due("stands", x.at(2, 0, 0), 2);
        Stage.due("hiss", x.hiss(2, 1), true);
        Stage.due("HISSES", x.seat(2, 4), 1);
        Stage.due("is still PAID, but not in effect", x.seat(2, 3), 1);
        Stage.due("does not stand", x.at(2, 0, 0), 0);
        Stage.due("hiss no more", x.hiss(2, 0), true);
        Stage.due("stands again", x.at(2, 0, 0), 2);
        Stage.due("pay no more", x.pay(2, 0), true);
        Stage.due("not PAID", x.seat(2, 3), 0);
        Stage.due("still", x.at(2, 0, 0), 0);
        Stage.due("pay a pillar", x.pay(1, 1), false);
        Stage.due("pay 3", x.pay(3, 1), false);
        Stage.due("pay -1", x.pay(-1, 1), false);
        Stage.due("pay 64", x.pay(64, 1), false);
        Stage.due("pay 2", x.pay(0, 2), false);
        Stage.due("pay is -1", x.pay(0, -1), false);
        Stage.due("hiss a pillar", x.hiss(1, 1), false);
        Stage.due("hiss 3", x.hiss(3, 0), false);
        Stage.due("hiss is 2", x.hiss(0, 2), false);
        Stage.due("none PAID", x.count(6), 0);
        Stage.due("none HISSES", x.count(7), 0);
    }

    private static void count() {
        Stage stage = Stage.of("row axa;row aaa;carry 7;paid 9;rows;");
        HouseClaps x = stage.x;
        x.pay(0, 1);
        x.pay(2, 1);
        x.hiss(2, 1);
        stage.cues("at 0 pay 1 1;at 0 free 0 0;at 1 hiss 1 0;");
        x.feed(0, 0, 0, 0, 0);
        int[] due = {2, 3, 5, 7, 9, 1, 2, 1, 20, 3};
        for (int what = 0; what < due.length; what++) {
            Stage.due("count " + what, x.count(what), due[what]);
        }
        Stage.due("count 10", x.count(10), -1);
        Stage.due("count -1", x.count(-1), -1);
    }
}
