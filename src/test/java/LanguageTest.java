import java.io.IOException;
import java.nio.charset.StandardCharsets;
import java.nio.file.Files;
import java.nio.file.Path;
import java.util.ArrayList;
import java.util.List;
import java.util.regex.Matcher;
import java.util.regex.Pattern;

/** The rules of LANGUAGE.md that can be seen from the text of the class alone. */
public final class LanguageTest {
    private static final String[] RULED_OUT = {"\\bthrow\\b", "\\btry\\b", "\\bcatch\\b", "\\bsynchronized\\b",
        "\\bassert\\b", "->", "::", "\\bdouble\\b", "\\bfloat\\b", "\\bnew \\w+\\(\\) *\\{", "static *\\{",
        "\\bimport\\b", "\\bpackage\\b", "Exact\\b", "\\bObject\\b", "\\bvar\\b", "\\bprotected\\b", "\\bnative\\b",
        "\\bhashCode\\b", "\\btoString\\b", "\\bSystem\\.(?!arraycopy)", "\\bMath\\.(?!abs|max|min|floorDiv)",
        "\\bInteger\\.(?!MIN_VALUE|MAX_VALUE|signum)"};
    private static final Pattern METHOD = Pattern.compile(
        "(?m)^ +(public |private )?(static )?(int|long|boolean|void) (\\w+)\\(([^)]*)\\) \\{");

    public static void main(String[] args) throws IOException {
        Path file = Path.of(System.getProperty("project", "."), "src", "main", "java", "MicroSteps.java");
        String text = Files.readString(file, StandardCharsets.UTF_8);
        Check.holds("signs 1 to 127 alone", text.chars().allMatch(c -> c > 0 && c < 128));
        String code = text.replaceAll("(?s)/\\*.*?\\*/", "").replaceAll("//[^\n]*", "").replaceAll("\"[^\"\n]*\"", "\"\"");
        for (String pattern : RULED_OUT) {
            Matcher matcher = Pattern.compile(pattern).matcher(code);
            Check.holds("no " + pattern, !matcher.find());
        }
        methods(code);
        int classes = code.split("\\bclass\\b", -1).length - 1;
        Check.holds("some twelve classes: " + classes, classes <= 12);
        Check.finish();
    }

    private static void methods(String code) {
        List<String> faces = new ArrayList<>();
        List<String> others = new ArrayList<>();
        Matcher matcher = METHOD.matcher(code);
        while (matcher.find()) {
            String name = matcher.group(4);
            ("public ".equals(matcher.group(1)) ? faces : others).add(name);
            Check.holds(name + " takes seven at most", matcher.group(5).split(",").length <= 7);
            int lines = code.substring(matcher.start(), endOf(code, matcher.end())).split("\n").length;
            Check.holds(name + " is short: " + lines, lines <= 60);
        }
        Check.same("methods of the face", faces.size(), 44);
        for (String name : others) {
            Check.holds(name + " is no name of the face", !faces.contains(name));
        }
    }

    private static int endOf(String code, int from) {
        int depth = 1;
        int at = from;
        while (depth > 0) {
            depth += code.charAt(at) == '{' ? 1 : code.charAt(at) == '}' ? -1 : 0;
            at++;
        }
        return at;
    }
}
