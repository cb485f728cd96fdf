import java.lang.reflect.Constructor;
import java.lang.reflect.Field;
import java.lang.reflect.Method;
import java.lang.reflect.Modifier;
import java.util.ArrayList;
import java.util.Collections;
import java.util.List;

/** The public face is the document's, no more and no less. */
public final class FaceTest {
    private static final String FACE = "about/1 axis/2 bands/2 bench/0 calmIn/0 carries/2 coil/3 current/2 drives/6 "
        + "end/1 fault/1 feed/5 field/1 follows/3 go/3 halt/0 load/2 mend/1 mode/1 most/4 needed/3 now/2 path/4 "
        + "pathAt/5 peak/4 queue/3 quickest/3 ramp/4 rampAt/4 ripple/2 run/1 settles/2 shake/3 stallIn/1 stamp/5 "
        + "strain/2 swings/3 table/2 trueUp/0 tuned/1 undo/0 unsafe/2 watch/2 worst/2";

    public static void main(String[] args) {
        Class<?> face = MicroSteps.class;
        Check.holds("public final class", Modifier.isPublic(face.getModifiers()) && Modifier.isFinal(face.getModifiers()));
        List<String> methods = new ArrayList<>();
        for (Method method : face.getDeclaredMethods()) {
            if (!Modifier.isPrivate(method.getModifiers()) && !method.isSynthetic()) {
                Check.holds(method.getName() + " is public, answers int", Modifier.isPublic(method.getModifiers())
                    && !Modifier.isStatic(method.getModifiers()) && method.getReturnType() == int.class);
                for (Class<?> type : method.getParameterTypes()) {
                    Check.holds(method.getName() + " takes ints", type == int.class);
                }
                methods.add(method.getName() + "/" + method.getParameterCount());
            }
        }
        Collections.sort(methods);
        String told = String.join(" ", methods);
        Check.holds("the face: " + told, told.equals(FACE));
        for (Field field : face.getDeclaredFields()) {
            Check.holds(field.getName() + " is hidden",
                Modifier.isPrivate(field.getModifiers()) || field.getName().equals("NONE"));
        }
        Constructor<?>[] makers = face.getDeclaredConstructors();
        Check.same("constructors", makers.length, 1);
        Check.holds("a public one without arguments",
            Modifier.isPublic(makers[0].getModifiers()) && makers[0].getParameterCount() == 0);
        Check.same("NONE", MicroSteps.NONE, -1);
        Check.finish();
    }
}
