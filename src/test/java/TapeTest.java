/** Promises 1 to 3: a new object, feed, end. */
public final class TapeTest {
    public static void main(String[] args) {
        newObject();
        feed();
        end();
        Stage.close("TapeTest");
    }

    private static void newObject() {
        HouseClaps x = new HouseClaps();
        int[] counts = {0, 0, 0, 1, 600, 0, 0, 0, 0, 0};
        for (int what = 0; what < counts.length; what++) {
            Stage.due("new count " + what, x.count(what), counts[what]);
        }
        Stage.due("new fault", x.fault(), 0);
        Stage.due("new many", x.many(600, 0), 0);
        Stage.due("new again", x.again(0), 0);
        Stage.due("new leader", x.leader(0), -1);
        Stage.due("new restore", x.restore(0), false);
        Stage.due("NONE", HouseClaps.NONE, -1);
    }

    private static void feed() {
        Stage stage = new Stage();
        Stage.due("feed", stage.x.feed(0x726f7720, 0x61626364, 0x65663b20, 0x20202020, 0x20202020), 20);
        Stage.due("the highest byte first", stage.x.house(), 1);
        Stage.due("columns", stage.x.count(1), 6);
        for (int i = 1; i <= 47; i++) {
            Stage.due("feed " + i, stage.x.feed(-1, -1, -1, -1, -1), 20 * i);
        }
        Stage.due("feed beyond 940", stage.x.feed(0, 0, 0, 0, 0), -1);
        Stage.due("none come", stage.x.count(8), 940);
        Stage.due("end 920", stage.x.end(920), true);
        Stage.due("feed up to 940", stage.x.feed(0, 0, 0, 0, 0), 940);
        Stage.due("end 921", stage.x.end(921), true);
        Stage.due("feed to 941", stage.x.feed(0, 0, 0, 0, 0), -1);
        Stage.due("still 921", stage.x.count(8), 921);
    }

    private static void end() {
        Stage stage = new Stage();
        Stage.due("end 0 of none", stage.x.end(0), true);
        Stage.due("end 1 of none", stage.x.end(1), false);
        stage.x.feed(1, 2, 3, 4, 5);
        Stage.due("end -1", stage.x.end(-1), false);
        Stage.due("end 21", stage.x.end(21), false);
        Stage.due("end least", stage.x.end(Integer.MIN_VALUE), false);
        Stage.due("end most", stage.x.end(Integer.MAX_VALUE), false);
        Stage.due("tape stays", stage.x.count(8), 20);
        Stage.due("end 20", stage.x.end(20), true);
        Stage.due("tape 20", stage.x.count(8), 20);
        Stage.due("end 7", stage.x.end(7), true);
        Stage.due("tape 7", stage.x.count(8), 7);
        Stage.due("end 8", stage.x.end(8), false);
    }
}
