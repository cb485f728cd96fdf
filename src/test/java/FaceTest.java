import java.io.IOException;
import java.lang.reflect.Constructor;
import java.lang.reflect.Field;
import java.lang.reflect.Method;
import java.lang.reflect.Modifier;
import java.nio.charset.StandardCharsets;
import java.nio.file.Files;
import java.nio.file.Path;
import java.util.ArrayList;
import java.util.Collections;
import java.util.List;
import java.util.regex.Matcher;
import java.util.regex.Pattern;

/** The public face is the document's, no more and no less. */
public final class FaceTest {
    private static final Pattern TOLD = Pattern.compile("(?m)^    public int (\\w+)\\(([^)]*)\\);$");

    public static void main(String[] args) throws IOException {
        Class<?> face = MicroSteps.class;
        Check.holds("public final class", Modifier.isPublic(face.getModifiers()) && Modifier.isFinal(face.getModifiers()));
        List<String> methods = new ArrayList<>();
        for (Method method : face.getDeclaredMethods()) {
            if (!Modifier.isPrivate(method.getModifiers()) && !method.isSynthetic()) {
                Check.holds(method.getName() + " is public, answers int", Modifier.isPublic(method.getModifiers())
                    && !Modifier.isStatic(method.getModifiers()) && method.getReturnType() == int.class);
                for (Class<?> type : method.getParameterTypes()) {
                    Check.holds(method.getName() + " takes ints", type == int.class);
                }
                methods.add(method.getName() + "/" + method.getParameterCount());
            }
        }
        Collections.sort(methods);
        List<String> told = toldMethods(Path.of(System.getProperty("project", "."), "..", "shared", "DOC.md"));
        Check.same("methods of the document", told.size(), 44);
        Check.holds("the face: " + methods + ", due is " + told, methods.equals(told));
        for (Field field : face.getDeclaredFields()) {
            Check.holds(field.getName() + " is hidden",
                Modifier.isPrivate(field.getModifiers()) || field.getName().equals("NONE"));
        }
        Constructor<?>[] makers = face.getDeclaredConstructors();
        Check.same("constructors", makers.length, 1);
        Check.holds("a public one without arguments",
            Modifier.isPublic(makers[0].getModifiers()) && makers[0].getParameterCount() == 0);
        Check.same("NONE", MicroSteps.NONE, -1);
        Check.finish();
    }

    /** Each method of the document's face, by its name and by how many numbers it takes. */
    private static List<String> toldMethods(Path document) throws IOException {
        List<String> told = new ArrayList<>();
        Matcher matcher = TOLD.matcher(Files.readString(document, StandardCharsets.UTF_8));
        while (matcher.find()) {
            String numbers = matcher.group(2);
            told.add(matcher.group(1) + "/" + (numbers.isEmpty() ? 0 : numbers.split(",").length));
        }
        Collections.sort(told);
        return told;
    }
}
