import java.io.IOException;
import java.lang.reflect.Method;
import java.lang.reflect.Modifier;
import java.nio.charset.StandardCharsets;
import java.nio.file.DirectoryStream;
import java.nio.file.Files;
import java.nio.file.Path;
import java.util.Set;
import java.util.TreeSet;
import java.util.regex.Matcher;
import java.util.regex.Pattern;

/** What README.md says is so: its examples answer as told, and it names each call and each test. */
public final class ReadmeTest {
    private static final Pattern EXAMPLE = Pattern.compile("(?s)```java\n(.*?)```");
    private static final Pattern CALL = Pattern.compile("x\\.(\\w+)\\(([^)]*)\\); *// (.*)");
    private static final Pattern ANSWER = Pattern.compile("(-?\\d+)\\b.*");
    private static final Pattern TEXT = Pattern.compile("\"(.*)\"");
    private static final Pattern FIRST_COLUMN = Pattern.compile("(?m)^\\| (`[^|]*) \\|");
    private static final Pattern NAME = Pattern.compile("`(\\w+)`");

    private MicroSteps x;

    public static void main(String[] args) throws IOException, ReflectiveOperationException {
        Path project = Path.of(System.getProperty("project", "."));
        String page = Files.readString(project.resolve("README.md"), StandardCharsets.UTF_8);
        examples(page);
        names(page, project);
        Check.holds(".ci/run can be run", Files.isExecutable(project.resolve(".ci/run")));
        Check.finish();
    }

    private static void examples(String page) throws ReflectiveOperationException {
        Matcher matcher = EXAMPLE.matcher(page);
        int count = 0;
        while (matcher.find()) {
            ReadmeTest test = new ReadmeTest();
            for (String line : matcher.group(1).split("\n")) {
                test.play(line);
            }
            count++;
        }
        Check.same("examples", count, 2);
    }

    private void play(String line) throws ReflectiveOperationException {
        if (line.equals("MicroSteps x = new MicroSteps();")) {
            x = new MicroSteps();
            return;
        }
        Matcher matcher = CALL.matcher(line);
        Check.holds("a call with what it answers: " + line, matcher.matches());
        String[] told = matcher.group(2).isEmpty() ? new String[0] : matcher.group(2).split(", ");
        Class<?>[] types = new Class<?>[told.length];
        Object[] arguments = new Object[told.length];
        for (int i = 0; i < told.length; i++) {
            types[i] = int.class;
            arguments[i] = Long.decode(told[i]).intValue();
        }
        Object answer = MicroSteps.class.getMethod(matcher.group(1), types).invoke(x, arguments);
        Matcher text = TEXT.matcher(matcher.group(3));
        Matcher due = ANSWER.matcher(matcher.group(3));
        if (text.matches()) {
            Check.holds(line + " tells its bytes", bytesOf(arguments).equals(text.group(1)));
        } else {
            Check.holds(line + " answers " + answer, due.matches() && due.group(1).equals(answer.toString()));
        }
    }

    /** The zeros behind the text are left out. */
    private static String bytesOf(Object[] numbers) {
        StringBuilder text = new StringBuilder();
        for (Object number : numbers) {
            for (int shift = 24; shift >= 0; shift -= 8) {
                text.append((char) ((Integer) number >> shift & 255));
            }
        }
        return text.toString().replaceAll("\0+$", "");
    }

    private static void names(String page, Path project) throws IOException {
        Set<String> told = new TreeSet<>();
        Matcher row = FIRST_COLUMN.matcher(page);
        while (row.find()) {
            Matcher name = NAME.matcher(row.group(1));
            while (name.find()) {
                Check.holds(name.group(1) + " is told once", told.add(name.group(1)));
            }
        }
        Set<String> due = new TreeSet<>();
        for (Method method : MicroSteps.class.getDeclaredMethods()) {
            if (Modifier.isPublic(method.getModifiers())) {
                due.add(method.getName());
            }
        }
        try (DirectoryStream<Path> files = Files.newDirectoryStream(project.resolve("src/test/java"), "*Test.java")) {
            for (Path file : files) {
                due.add(file.getFileName().toString().replace(".java", ""));
            }
        }
        Check.holds("calls and tests told: " + told + ", due: " + due, told.equals(due));
    }
}
