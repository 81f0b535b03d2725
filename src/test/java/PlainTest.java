import java.lang.reflect.InvocationTargetException;
import java.lang.reflect.Method;
import java.nio.charset.StandardCharsets;
import java.util.ArrayList;
import java.util.List;
import java.util.Random;

/** Drawn runs of calls on HouseClaps and on Plain, with the same numbers each time: all answers are alike. */
public final class PlainTest {
    private static final String[] AREAS = {"near", "ahead", "beside", "behind", "seen", "house"};
    private static int wrong = 0;

    private final Random random;
    private final List<String> told = new ArrayList<>();
    private HouseClaps real = new HouseClaps();
    private Plain plain = new Plain();
    private int cells = 0;
    private int columns = 1;

    private PlainTest(long seed) {
        random = new Random(seed);
    }

    public static void main(String[] args) throws Exception {
        int runs = args.length > 0 ? Integer.parseInt(args[0]) : 120;
        long first = args.length > 1 ? Long.parseLong(args[1]) : 1;
        for (int run = 0; run < runs && wrong < 5; run++) {
            new PlainTest(first + run).play(first + run);
        }
        System.out.println(wrong == 0 ? "PlainTest: " + runs + " runs, all alike" : "PlainTest: " + wrong + " runs unlike");
        if (wrong != 0) {
            System.exit(1);
        }
    }

    private void play(long seed) throws Exception {
        for (int i = 0; i < 60; i++) {
            if (!step(i)) {
                wrong++;
                System.out.println("seed " + seed + ":");
                told.forEach(System.out::println);
                return;
            }
        }
    }

    private boolean step(int i) throws Exception {
        int what = i == 0 ? 0 : random.nextInt(32);
        if (what == 0) {
            boolean alike = text(houseText(), 900, i == 0 ? 10 : random.nextInt(10)) && call("house") && call("fault");
            columns = Math.max(1, real.count(1));
            cells = real.count(0) * real.count(1);
            return alike;
        }
        if (what == 1 || what == 2) {
            return text(cueText(), 400, random.nextInt(10)) && call("cues") && call("fault");
        }
        if (what == 3) {
            return someSeats() && (random.nextInt(3) > 0 ? call("cheapest") && call("bought") : call("hush"));
        }
        if (what == 4) {
            return someSeats() && call("coalitions", random.nextInt(5) - 2);
        }
        if (what == 5) {
            return someSeats() && call("worth") && call("worthOf", random.nextInt(4), random.nextInt(2));
        }
        if (what == 6) {
            return sides() && call("sides") && call("side", random.nextInt(3)) && call("side", random.nextInt(5) - 1);
        }
        if (what == 7 || what == 8) {
            return sketch() && call("beganAt", 0) && call("beganAt", 1);
        }
        if (what == 9 && random.nextInt(2) == 0) {
            return any(SLOW);
        }
        if (what < 12) {
            return any(SMALL);
        }
        return any(COMMON);
    }

    private static final String[] SLOW = {"exchanged", "exchanged", "arrange", "leader"};
    private static final String[] SMALL = {"exchange", "drawn", "image", "restore", "arranged", "starts", "parts",
        "bought", "side", "beganAt", "worthOf", "end", "fault"};
    private static final String[] COMMON = {"seat", "law", "pay", "pay", "hiss", "cue", "sees", "at", "at", "many", "would",
        "stands", "anyway", "up", "calls", "again", "carries", "count"};

    private boolean any(String[] names) throws Exception {
        String name = names[random.nextInt(names.length)];
        for (Method method : HouseClaps.class.getMethods()) {
            if (method.getName().equals(name)) {
                Object[] args = new Object[method.getParameterCount()];
                for (int i = 0; i < args.length; i++) {
                    args[i] = argument(name, i);
                }
                return call(name, args);
            }
        }
        throw new IllegalStateException(name);
    }

    private int argument(String name, int i) {
        boolean isSeat = i == 0 && !List.of("law", "cue", "many", "anyway", "calls", "again", "carries", "side", "beganAt",
            "worthOf", "leader", "drawn", "image", "restore", "count", "end").contains(name)
            || i == 1 && (name.equals("parts") || name.equals("exchange"));
        if (isSeat) {
            return random.nextInt(20) == 0 ? random.nextInt(70) - 3 : random.nextInt(Math.max(1, cells));
        }
        boolean isMoment = i == 1 && List.of("sees", "at", "would").contains(name)
            || i == 0 && List.of("many", "anyway", "calls").contains(name);
        if (isMoment) {
            int kind = random.nextInt(8);
            return kind == 0 ? random.nextInt(603) - 1 : kind == 1 ? random.nextInt(100) : random.nextInt(16);
        }
        if (name.equals("drawn")) {
            return i == 0 ? random.nextInt(Math.max(1, cells) + 2) : random.nextInt();
        }
        int most = name.equals("pay") || name.equals("hiss") ? 2 : name.equals("count") ? 11
            : name.equals("law") && i == 0 || name.equals("sees") && i == 2 || name.equals("seat") || name.equals("cue") ? 6
            : name.equals("end") ? 100 : 2;
        return random.nextInt(12) == 0 ? random.nextInt(most + 3) - 1 : random.nextInt(most);
    }

    private boolean call(String name, Object... args) throws Exception {
        String got = answer(real, name, args);
        String due = answer(plain, name, args);
        told.add("  " + name + java.util.Arrays.toString(args) + " " + got + (got.equals(due) ? "" : ", due is " + due));
        return got.equals(due);
    }

    private static String answer(Object of, String name, Object... args) throws Exception {
        Class<?>[] types = new Class<?>[args.length];
        java.util.Arrays.fill(types, int.class);
        try {
            Object answer = of.getClass().getMethod(name, types).invoke(of, args);
            return String.valueOf(answer);
        } catch (InvocationTargetException e) {
            return e.getCause().getClass().getSimpleName();
        }
    }

    private boolean bytes(byte[] bytes) throws Exception {
        if (!call("end", 0)) {
            return false;
        }
        for (int i = 0; i < bytes.length; i += 20) {
            Object[] five = new Object[5];
            for (int k = 0; k < 5; k++) {
                int n = 0;
                for (int b = 0; b < 4; b++) {
                    int at = i + 4 * k + b;
                    n = n << 8 | (at < bytes.length ? bytes[at] & 255 : 0);
                }
                five[k] = n;
            }
            if (!call("feed", five)) {
                return false;
            }
        }
        return call("end", bytes.length);
    }

    private boolean text(String good, int limit, int kind) throws Exception {
        String text = good;
        if (kind < 3) {
            text = harmed(good);
        }
        if (kind == 3 && good.length() < limit) {
            int blanks = limit - good.length() + random.nextInt(6) - 3;
            int at = random.nextInt(good.length() + 1);
            text = good.substring(0, at) + " ".repeat(Math.max(0, blanks)) + good.substring(at);
        }
        if (text.length() > 940) {
            text = text.substring(0, 940);
        }
        told.add("  text " + text);
        return bytes(text.getBytes(StandardCharsets.ISO_8859_1));
    }

    private String harmed(String good) {
        StringBuilder text = new StringBuilder(good);
        String signs = " \n;<=>()abcdxyz0123459A!";
        for (int times = 1 + random.nextInt(2); times > 0 && text.length() > 0; times--) {
            int at = random.nextInt(text.length());
            switch (random.nextInt(5)) {
                case 0 -> text.setLength(at);
                case 1 -> text.deleteCharAt(at);
                case 2 -> text.setCharAt(at, signs.charAt(random.nextInt(signs.length())));
                case 3 -> text.insert(at, signs.charAt(random.nextInt(signs.length())));
                default -> {
                    int from = good.indexOf(';', random.nextInt(good.length()));
                    int to = good.indexOf(';', from + 1);
                    if (from >= 0 && to > from) {
                        text.append(good, from + 1, to + 1);
                    }
                }
            }
        }
        return text.toString();
    }

    private String houseText() {
        StringBuilder text = new StringBuilder();
        boolean large = random.nextInt(12) == 0;
        int rows = large ? 1 + random.nextInt(8) : 1 + random.nextInt(4);
        int columns = large ? 1 + random.nextInt(8) : 1 + random.nextInt(4);
        int cells = rows * columns;
        int kinds = 1 + random.nextInt(random.nextInt(4) == 0 ? 6 : 3);
        for (int r = 0; r < rows; r++) {
            text.append("row ");
            for (int c = 0; c < columns; c++) {
                text.append(random.nextInt(9) == 0 ? 'x' : (char) ('a' + random.nextInt(kinds)));
            }
            text.append(blank(";"));
        }
        for (int k = 0; k < kinds; k++) {
            for (String law : new String[] {"up", "down"}) {
                if (random.nextInt(5) > (law.equals("up") ? 0 : 2)) {
                    text.append(law).append(' ').append((char) ('a' + k)).append(' ');
                    text.append(cond(random.nextInt(3) == 0 ? 4 : 2)).append(blank(";"));
                }
            }
        }
        for (int r = 0; r < rows; r++) {
            if (random.nextInt(3) == 0) {
                text.append("price ").append(r).append(' ').append(random.nextInt(12)).append(blank(";"));
            }
            if (random.nextInt(6) == 0) {
                text.append("leaves ").append(r).append(' ').append(moment()).append(blank(";"));
            }
        }
        if (random.nextInt(5) > 0) {
            text.append("carry ").append(1 + random.nextInt(Math.min(64, random.nextInt(3) == 0 ? cells + 1 : 5))).append(blank(";"));
        }
        if (random.nextInt(4) == 0) {
            text.append("paid ").append(random.nextInt(5) == 0 ? 600 - random.nextInt(3) : moment()).append(blank(";"));
        }
        if (random.nextInt(3) == 0) {
            text.append("rows").append(blank(";"));
        }
        return text.length() > 930 ? text.substring(0, 930) : text.toString();
    }

    private int moment() {
        return random.nextInt(8) == 0 ? random.nextInt(601) : random.nextInt(20);
    }

    private String blank(String sign) {
        return random.nextInt(10) == 0 ? " " + sign + "\n" : sign;
    }

    private String cond(int depth) {
        StringBuilder cond = new StringBuilder(one(depth));
        for (int more = random.nextInt(3); more > 0; more--) {
            cond.append(random.nextBoolean() ? " and " : " or ").append(one(depth));
        }
        return cond.toString();
    }

    private String one(int depth) {
        int kind = random.nextInt(8);
        if (depth > 0 && kind == 0) {
            return "not " + one(depth - 1);
        }
        if (depth > 0 && kind == 1) {
            return "(" + cond(depth - 1) + ")";
        }
        String sign = new String[] {"<", "=", ">", ">", ">"}[random.nextInt(5)];
        String number = String.valueOf(random.nextInt(random.nextInt(2) == 0 ? 1 : 4));
        if (kind == 2) {
            return (random.nextBoolean() ? "self" : "held") + blank(sign) + number;
        }
        return AREAS[random.nextInt(6)] + " " + (1 + random.nextInt(2)) + sign + number;
    }

    private String cueText() {
        StringBuilder text = new StringBuilder();
        int t = 0;
        int cues = random.nextInt(20) == 0 ? 32 : random.nextInt(6);
        List<Integer> seats = new ArrayList<>();
        for (int s = 0; s < cells; s++) {
            if (random.nextInt(20) == 0 || real.sees(s, 0, 0, 1) != HouseClaps.NONE) {
                seats.add(s);
            }
        }
        for (int i = 0; i < cues; i++) {
            t = Math.min(600, t + (random.nextInt(20) == 0 ? random.nextInt(300) : random.nextInt(cues > 30 ? 2 : 6)));
            String deed = new String[] {"pay", "hiss", "free", "still"}[random.nextInt(4)];
            text.append("at ").append(t).append(' ').append(deed);
            if (!deed.equals("still")) {
                int s = seats.isEmpty() ? 0 : seats.get(random.nextInt(seats.size()));
                text.append(' ').append(s / columns).append(' ').append(s % columns);
            }
            text.append(blank(";"));
        }
        return text.toString();
    }

    private boolean someSeats() throws Exception {
        int n = random.nextInt(12) == 0 ? random.nextInt(10) : 1 + random.nextInt(cells > 24 ? 3 : 4);
        return bytes(drawnSeats(n, 0));
    }

    private byte[] drawnSeats(int n, int from) {
        byte[] seats = new byte[n + from];
        List<Integer> all = new ArrayList<>();
        for (int s = 0; s < cells; s++) {
            all.add(s);
        }
        for (int i = from; i < seats.length; i++) {
            seats[i] = (byte) (all.isEmpty() || random.nextInt(40) == 0 ? random.nextInt(256) : all.remove(random.nextInt(all.size())));
        }
        return seats;
    }

    private boolean sides() throws Exception {
        int first = 1 + random.nextInt(2);
        int second = 1 + random.nextInt(2);
        byte[] bytes = drawnSeats(first + second, 1);
        bytes[0] = (byte) (random.nextInt(10) == 0 ? random.nextInt(8) : first);
        return bytes(bytes);
    }

    private boolean sketch() throws Exception {
        int t = random.nextInt(10) == 0 ? random.nextInt(64) - 1 : random.nextInt(8);
        byte[] sketch = new byte[random.nextInt(20) == 0 ? cells + 1 : cells];
        int seen = random.nextInt(4);
        for (int s = 0; s < sketch.length; s++) {
            sketch[s] = (byte) (random.nextInt(4) < seen ? 3 : random.nextInt(3));
        }
        if (random.nextInt(20) == 0 && sketch.length > 0) {
            sketch[random.nextInt(sketch.length)] = (byte) (3 + random.nextInt(3));
        }
        return bytes(sketch) && call("began", t);
    }
}
