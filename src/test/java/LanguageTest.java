import java.nio.file.Files;
import java.nio.file.Path;
import java.util.List;
import java.util.regex.Matcher;
import java.util.regex.Pattern;

/** What of LANGUAGE.md can be seen in the text of the class: run from the project's folder. */
public final class LanguageTest {
    private static final Path SOURCE = Path.of("src/main/java/HouseClaps.java");
    private static final String[] NEVER = {"->", "::", "\\bsynchronized\\b", "\\bassert\\b", "\\btry\\b", "\\bcatch\\b",
        "\\bfinally\\b", "Exact\\b", "\\bstatic \\{", "\\bdouble\\b", "\\bfloat\\b", "\\bvar\\b", "\\bpackage\\b", "\\bprotected\\b",
        "\" \\+", "\\+ \"", "System\\.(?!arraycopy)", "\\bThread\\b", "\\bRandom\\b", "\\bhashCode\\b", "\\btoString\\b",
        "\\bwhile \\(true\\)", "for \\(;;\\)"};

    public static void main(String[] args) throws Exception {
        String text = Files.readString(SOURCE);
        String code = text.replaceAll("(?s)/\\*.*?\\*/", "").replaceAll("//[^\n]*", "");
        String bare = code.replaceAll("\"[^\"\n]*\"", "\"\"");
        for (String never : NEVER) {
            Matcher matcher = Pattern.compile(never).matcher(bare);
            Stage.due("the source has " + never, matcher.find(), false);
        }
        Matcher imports = Pattern.compile("import ([^;]+);").matcher(bare);
        while (imports.find()) {
            String name = imports.group(1);
            Stage.due("import " + name, List.of("java.util.Arrays", "java.util.NoSuchElementException").contains(name), true);
        }
        Stage.due("other packages", bare.replaceAll("import [^;]+;", "").contains("java."), false);
        Stage.due("throws only what is named", Pattern.compile("throw (?!new NoSuchElementException\\(\\);)").matcher(bare).find(),
            false);
        long classes = Pattern.compile("\\bclass \\w+").matcher(bare).results().count();
        Stage.due("classes " + classes, classes <= 12, true);
        for (int i = 0; i < text.length(); i++) {
            Stage.due("sign at " + i, text.charAt(i) == '\n' || text.charAt(i) >= 32 && text.charAt(i) < 127, true);
        }
        methods(bare);
        Stage.close("LanguageTest");
    }

    private static void methods(String code) {
        String[] lines = code.split("\n");
        Pattern head = Pattern.compile("^ {4}(?: {4})?[\\w\\[\\] ]+\\(([^)]*)\\)(?: throws \\w+)? \\{$");
        for (int i = 0; i < lines.length; i++) {
            Matcher matcher = head.matcher(lines[i]);
            if (matcher.matches()) {
                String indent = lines[i].replaceAll("\\S.*", "");
                int end = i;
                while (!lines[end].equals(indent + "}")) {
                    end++;
                }
                Stage.due("lines of" + lines[i], end - i + 1 <= 60, true);
                Stage.due("parameters of" + lines[i], matcher.group(1).split(",").length <= 7, true);
            }
        }
    }
}
