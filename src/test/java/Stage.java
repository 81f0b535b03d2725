import java.nio.charset.StandardCharsets;
import java.util.NoSuchElementException;

/** A HouseClaps with texts and numbers told to it, and a count of the answers that were not due. */
public final class Stage {
    private static int wrong = 0;
    private static int asked = 0;

    final HouseClaps x = new HouseClaps();

    /** A call that may throw. */
    interface Call {
        int answer();
    }

    static void due(String what, long got, long want) {
        asked++;
        if (got != want) {
            wrong++;
            System.out.println(what + " answered " + got + ", due is " + want);
        }
    }

    static void due(String what, boolean got, boolean want) {
        due(what, got ? 1 : 0, want ? 1 : 0);
    }

    static void dueThrows(String what, Call call) {
        asked++;
        try {
            int got = call.answer();
            wrong++;
            System.out.println(what + " answered " + got + ", due is NoSuchElementException");
        } catch (NoSuchElementException e) {
            // as due
        }
    }

    static void dueSame(String what, String got, String want) {
        due(what + " told " + got + " ahead of it " + want, got.equals(want), true);
    }

    /** All that is held ahead of any NIGHT, and what other calls told last. */
    String told() {
        StringBuilder all = new StringBuilder();
        for (int what = 0; what < 10; what++) {
            all.append(x.count(what)).append(' ');
        }
        for (int s = 0; s < x.count(0) * x.count(1); s++) {
            boolean seat = x.at(s, 0, 0) >= 0;
            for (int what = 0; what < 5; what++) {
                all.append(seat ? x.seat(s, what) : -9).append(' ');
            }
        }
        for (int law = 0; law < 12; law++) {
            all.append(x.law(law / 2, law % 2)).append(' ');
        }
        for (int cue = 0; cue < 3 * x.count(9); cue++) {
            all.append(x.cue(cue / 3, cue % 3)).append(' ');
        }
        return all.append(toldLast()).toString();
    }

    /** What other calls told last: fault, bought, worthOf, side, beganAt, arranged. */
    String toldLast() {
        StringBuilder all = new StringBuilder("last ");
        all.append(x.fault()).append(' ').append(x.bought()).append(' ').append(x.arranged()).append(' ');
        for (int what = 0; what < 3; what++) {
            all.append(x.side(what)).append(' ').append(x.beganAt(what)).append(' ');
        }
        for (int i = 0; i < 8; i++) {
            try {
                all.append(x.worthOf(i, 0)).append('/').append(x.worthOf(i, 1)).append(' ');
            } catch (NoSuchElementException e) {
                all.append("- ");
            }
        }
        return all.toString();
    }

    /** Ends the test: with 1, if an answer was not due. */
    static void close(String name) {
        System.out.println(name + ": " + asked + " answers, " + wrong + " not as due");
        if (wrong != 0) {
            System.exit(1);
        }
    }

    /** The tape has these bytes alone. */
    Stage tape(int... bytes) {
        x.end(0);
        for (int i = 0; i < bytes.length; i += 20) {
            int[] five = new int[5];
            for (int k = 0; k < 20; k++) {
                five[k / 4] = five[k / 4] << 8 | (i + k < bytes.length ? bytes[i + k] & 255 : 0);
            }
            x.feed(five[0], five[1], five[2], five[3], five[4]);
        }
        x.end(bytes.length);
        return this;
    }

    Stage text(String text) {
        byte[] bytes = text.getBytes(StandardCharsets.ISO_8859_1);
        int[] numbers = new int[bytes.length];
        for (int i = 0; i < bytes.length; i++) {
            numbers[i] = bytes[i] & 255;
        }
        return tape(numbers);
    }

    int house(String text) {
        return text(text).x.house();
    }

    int cues(String text) {
        return text(text).x.cues();
    }

    /** A stage with a HOUSE that has no FAULT. */
    static Stage of(String house) {
        Stage stage = new Stage();
        if (stage.house(house) < 0) {
            throw new IllegalArgumentException(house);
        }
        return stage;
    }

    /** house() finds a FAULT of that kind at that place, and the HOUSE stays. */
    static void dueFault(String house, int kind, int place) {
        Stage stage = of("row ab;carry 2;");
        due("house " + house, stage.house(house), -1 - place);
        due("fault of " + house, stage.x.fault(), kind);
        due("columns behind " + house, stage.x.count(1), 2);
        due("tape behind " + house, stage.x.count(8), 0);
    }

    /** cues() finds a FAULT of that kind at that place, and the CUES stay. */
    void dueCueFault(String cues, int kind, int place) {
        int before = x.count(9);
        due("cues " + cues, cues(cues), -1 - place);
        due("fault of " + cues, x.fault(), kind);
        due("cues behind " + cues, x.count(9), before);
        due("tape behind " + cues, x.count(8), 0);
    }
}
