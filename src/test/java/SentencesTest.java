import java.io.IOException;
import java.nio.charset.StandardCharsets;
import java.nio.file.DirectoryStream;
import java.nio.file.Files;
import java.nio.file.Path;
import java.util.regex.Matcher;
import java.util.regex.Pattern;

/**
 * The sentences that the Edges tests name are the document's own, each promise has some, and no words that name an
 * edge stand outside of them.
 */
public final class SentencesTest {
    private static final int PROMISES = 45;
    private static final Pattern NAMED = Pattern.compile("Check\\.sentence\\((\\d+), \"((?:[^\"\\\\]|\\\\.)*)\"\\)");
    private static final Pattern EDGE = Pattern.compile("NONE|MIN_VALUE|\\.\\.|\\bat (the )?(most|least)\\b|\\blike ones\\b"
        + "|\\bno more than\\b|\\bor more\\b|\\b(above|below) 0\\b|\\balready\\b|\\bonce\\b|\\bnothing\\b|\\bfirst\\b|\\bany\\b");

    /** The section of each promise; that of the terms stands at 0. */
    private final String[] sections = new String[PROMISES + 1];
    private final boolean[][] named = new boolean[PROMISES + 1][];

    public static void main(String[] args) throws IOException {
        Path project = Path.of(System.getProperty("project", "."));
        SentencesTest test = new SentencesTest();
        test.readDocument(project.resolve("../shared/DOC.md"));
        test.readTests(project.resolve("src/test/java"));
        test.lookForOthers();
        Check.finish();
    }

    private void readDocument(Path file) throws IOException {
        String text = Files.readString(file, StandardCharsets.UTF_8).replaceAll("\\s+", " ");
        sections[0] = between(text, "## Terms", "The constants: ");
        for (int p = 1; p <= PROMISES; p++) {
            sections[p] = between(text, "## Promise " + p + ":", p < PROMISES ? "## Promise " + (p + 1) + ":" : "## Not promised");
        }
        for (int p = 0; p <= PROMISES; p++) {
            named[p] = new boolean[sections[p].length()];
        }
    }

    private static String between(String text, String begin, String end) {
        int from = text.indexOf(begin);
        int to = text.indexOf(end);
        Check.holds("the document has " + begin, from >= 0 && to > from);
        return from >= 0 && to > from ? text.substring(from, to) : "";
    }

    private void readTests(Path folder) throws IOException {
        int[] count = new int[PROMISES + 1];
        try (DirectoryStream<Path> files = Files.newDirectoryStream(folder, "Edges*Test.java")) {
            for (Path file : files) {
                Matcher matcher = NAMED.matcher(Files.readString(file, StandardCharsets.UTF_8));
                while (matcher.find()) {
                    int promise = Integer.parseInt(matcher.group(1));
                    take(promise, matcher.group(2).replaceAll("\\\\(.)", "$1"));
                    count[promise]++;
                }
            }
        }
        for (int p = 1; p <= PROMISES; p++) {
            Check.holds("promise " + p + " has sentences", count[p] > 0);
        }
    }

    private void take(int promise, String words) {
        int section = sections[promise].contains(words) ? promise : 0;
        int at = sections[section].indexOf(words);
        Check.holds("promise " + promise + " says: " + words, at >= 0);
        for (int i = 0; at >= 0 && i < words.length(); i++) {
            named[section][at + i] = true;
        }
    }

    /** What was named is blotted out; what is left names no edge. */
    private void lookForOthers() {
        for (int p = 0; p <= PROMISES; p++) {
            StringBuilder rest = new StringBuilder(sections[p]);
            for (int i = 0; i < rest.length(); i++) {
                if (named[p][i]) {
                    rest.setCharAt(i, '#');
                }
            }
            Matcher matcher = EDGE.matcher(rest);
            while (matcher.find()) {
                int from = Math.max(0, matcher.start() - 60);
                int to = Math.min(rest.length(), matcher.end() + 60);
                Check.holds("no edge of promise " + p + " is without a test: " + rest.substring(from, to), false);
            }
        }
    }
}
