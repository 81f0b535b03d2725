import java.lang.reflect.Constructor;
import java.lang.reflect.Field;
import java.lang.reflect.InvocationTargetException;
import java.lang.reflect.Method;
import java.lang.reflect.Modifier;
import java.util.NoSuchElementException;
import java.util.Random;
import java.util.Set;
import java.util.TreeSet;

/** The face is the document's and no other, and nothing but what the document names is ever thrown. */
public final class FaceTest {
    private static final String FACE = "anyway/1 again/1 arrange/0 arranged/0 at/3 began/1 beganAt/1 bought/0 calls/1 carries/1"
        + " cheapest/0 coalitions/1 count/1 cue/2 cues/0 drawn/2:z end/1:z exchange/2:z exchanged/0 fault/0 feed/5 hiss/2:z"
        + " house/0 hush/0 image/1:z law/2 leader/1 many/2 parts/2 pay/2:z restore/1:z seat/2 sees/4 side/1 sides/0 stands/1"
        + " starts/1 up/0 worth/0 worthOf/2 would/3";
    private static final Set<String> THROWING = Set.of("seat", "cue", "worthOf");
    private static final int[] WILD = {Integer.MIN_VALUE, Integer.MIN_VALUE + 1, -1000, -65, -64, -2, -1, 0, 1, 2, 3, 4, 5, 6,
        7, 8, 9, 23, 24, 25, 30, 31, 32, 60, 61, 62, 63, 64, 65, 127, 128, 255, 256, 599, 600, 601, 900, 940, 941, 65536,
        Integer.MAX_VALUE - 1, Integer.MAX_VALUE};
    private static final String[] HOUSES = {
        "",
        "row x;",
        "row abcdefxa;row xxxxxxxx;row abcabcab;row fedcbaxx;row aaaaaaaa;row bbbbbbbb;row xaxaxaxa;row aaaaaaaa;"
            + "up a seen 1>0;up b near 2>1 or held>2;down a house 2>9;rows;leaves 7 9;paid 20;carry 64;",
        "row abcd;row badc;row cdab;row dcba;row abxx;row abcd;up a not near 1<1;down b (held>1 and self>0);up c house 1=3;carry 9;",
        "row aaaaaaaa;row aaaaaaaa;row aaaaaaaa;row aaaaaaaa;row aaaaaaaa;row aaaaaaaa;row aaaaaaaa;row aaaaaaaa;up a near 1>0;"
    };

    public static void main(String[] args) throws Exception {
        face();
        for (int run = 0; run < 60; run++) {
            wild(run);
        }
        Stage.close("FaceTest");
    }

    private static void face() {
        Set<String> due = new TreeSet<>(Set.of(FACE.split(" ")));
        Set<String> got = new TreeSet<>();
        Set<String> names = new TreeSet<>();
        for (Method method : HouseClaps.class.getDeclaredMethods()) {
            if (!Modifier.isPrivate(method.getModifiers()) && !method.isSynthetic()) {
                boolean is = method.getReturnType() == boolean.class;
                got.add(method.getName() + "/" + method.getParameterCount() + (is ? ":z" : ""));
                names.add(method.getName());
                Stage.due(method.getName() + " is public and no static one", method.getModifiers(), Modifier.PUBLIC);
                Stage.due(method.getName() + " throws", method.getExceptionTypes().length,
                    THROWING.contains(method.getName()) ? 1 : 0);
            }
        }
        Stage.due("methods " + got, got.equals(due), true);
        for (Method method : HouseClaps.class.getDeclaredMethods()) {
            boolean hidden = Modifier.isPrivate(method.getModifiers());
            Stage.due("private " + method.getName(), hidden && names.contains(method.getName()), false);
        }
        for (Field field : HouseClaps.class.getDeclaredFields()) {
            boolean open = !Modifier.isPrivate(field.getModifiers());
            Stage.due("field " + field.getName(), open, field.getName().equals("NONE"));
        }
        Constructor<?>[] constructors = HouseClaps.class.getDeclaredConstructors();
        Stage.due("constructors", constructors.length, 1);
        Stage.due("public constructor", Modifier.isPublic(constructors[0].getModifiers()), true);
        Stage.due("final", Modifier.isFinal(HouseClaps.class.getModifiers()), true);
        for (Class<?> inside : HouseClaps.class.getDeclaredClasses()) {
            Stage.due(inside + " is static", Modifier.isStatic(inside.getModifiers()), true);
            Stage.due(inside + " is not public", Modifier.isPublic(inside.getModifiers()), false);
        }
    }

    private static void wild(int run) throws Exception {
        Random random = new Random(run);
        Stage stage = new Stage();
        stage.house(HOUSES[run % HOUSES.length]);
        Method[] methods = HouseClaps.class.getDeclaredMethods();
        java.util.Arrays.sort(methods, java.util.Comparator.comparing(Method::getName));
        for (int call = 0; call < 300; call++) {
            Method method = methods[random.nextInt(methods.length)];
            if (!Modifier.isPublic(method.getModifiers())) {
                continue;
            }
            if (method.getName().equals("house") && random.nextInt(20) > 0) {
                continue;
            }
            if (random.nextInt(3) == 0) {
                int[] tape = new int[random.nextInt(15)];
                for (int i = 0; i < tape.length; i++) {
                    tape[i] = random.nextInt(10) == 0 ? random.nextInt(256) : random.nextInt(i == 0 ? 8 : 64);
                }
                stage.tape(tape);
            }
            Object[] args = new Object[method.getParameterCount()];
            for (int i = 0; i < args.length; i++) {
                args[i] = random.nextInt(3) == 0 ? random.nextInt(20) : WILD[random.nextInt(WILD.length)];
            }
            String what = "run " + run + " " + method.getName() + java.util.Arrays.toString(args);
            try {
                method.invoke(stage.x, args);
            } catch (InvocationTargetException e) {
                boolean due = e.getCause() instanceof NoSuchElementException && THROWING.contains(method.getName());
                Stage.due(what + " threw " + e.getCause(), due, true);
            }
        }
    }
}
