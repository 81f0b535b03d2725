import java.lang.reflect.Method;
import java.lang.reflect.Modifier;
import java.nio.file.Files;
import java.nio.file.Path;
import java.util.regex.Matcher;
import java.util.regex.Pattern;

/** The run that README.md shows answers as it says there: run from the project's folder. */
public final class ReadmeTest {
    private static final Pattern TELL = Pattern.compile("tell\\(x, \"([^\"]*)\"\\);.*");
    private static final Pattern CALL = Pattern.compile("x\\.(\\w+)\\(([^)]*)\\); +// (-?\\d+|true|false)\\b.*");

    public static void main(String[] args) throws Exception {
        String readme = Files.readString(Path.of("README.md"));
        namesEveryCall(readme);
        int from = readme.indexOf("HouseClaps x = new HouseClaps();");
        Stage.due("the run stands in README.md", from >= 0, true);
        play(readme.substring(Math.max(0, from)).split("```")[0].split("\n"));
        Stage.close("ReadmeTest");
    }

    private static void namesEveryCall(String readme) {
        for (Method method : HouseClaps.class.getDeclaredMethods()) {
            if (Modifier.isPublic(method.getModifiers())) {
                Stage.due("README.md names " + method.getName(), readme.contains("`" + method.getName() + "`"), true);
            }
        }
    }

    private static void play(String[] lines) throws Exception {
        HouseClaps x = new HouseClaps();
        for (int i = 1; i < lines.length; i++) {
            Matcher tell = TELL.matcher(lines[i]);
            Matcher call = CALL.matcher(lines[i]);
            if (tell.matches()) {
                tell(x, tell.group(1).translateEscapes());
            } else if (call.matches()) {
                String got = answer(x, call);
                Stage.due("the line " + lines[i] + " with " + got, got.equals(call.group(3)), true);
            } else {
                Stage.due("no line of a run: " + lines[i], lines[i].isEmpty(), true);
            }
        }
    }

    private static String answer(HouseClaps x, Matcher call) throws Exception {
        String[] numbers = call.group(2).isEmpty() ? new String[0] : call.group(2).split(", ");
        Object[] args = new Object[numbers.length];
        Class<?>[] types = new Class<?>[numbers.length];
        for (int i = 0; i < numbers.length; i++) {
            args[i] = Integer.valueOf(numbers[i]);
            types[i] = int.class;
        }
        return String.valueOf(HouseClaps.class.getMethod(call.group(1), types).invoke(x, args));
    }

    /** As README.md tells it. */
    private static void tell(HouseClaps x, String text) {
        int before = x.count(8);
        for (int i = 0; i < text.length(); i += 20) {
            int[] five = new int[5];
            for (int k = 0; k < 20; k++) {
                five[k / 4] = five[k / 4] << 8 | (i + k < text.length() ? text.charAt(i + k) : 0);
            }
            x.feed(five[0], five[1], five[2], five[3], five[4]);
        }
        x.end(before + text.length());
    }
}
