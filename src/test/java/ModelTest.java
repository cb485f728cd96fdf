import java.lang.reflect.InvocationTargetException;
import java.lang.reflect.Method;
import java.util.ArrayList;
import java.util.Comparator;
import java.util.List;
import java.util.Random;

/** Runs of calls by a fixed seed, each answer held against the Model's. Arguments: runs, seed. */
public final class ModelTest {
    private static final String[] SPOILS = {"axis", ";", "-", " ", "\n", "x", "motor x", "99999", "123456", "0", "61",
        "abcdefg", "7a", "A", "speed", "band", "coil supply 1 loss 1;", "fix 3 4;", "\u00e9", "201", "jerkk"};
    private static final int[] EDGES = {-30001, -30000, -2001, -2000, -1024, -1023, -1, 0, 1, 2, 8, 9, 60, 61, 64, 65,
        100, 101, 200, 201, 500, 501, 1000, 1001, 2000, 2001, 2048, 2049, 30000, 30001, 60000, 60001,
        Integer.MIN_VALUE, Integer.MAX_VALUE};

    private final Random random;
    private final List<String> told = new ArrayList<>();
    private MicroSteps x;
    private Model model;

    private ModelTest(long seed) {
        random = new Random(seed);
    }

    public static void main(String[] args) throws ReflectiveOperationException {
        int runs = args.length > 0 ? Integer.parseInt(args[0]) : 250;
        long seed = args.length > 1 ? Long.parseLong(args[1]) : 20261118L;
        List<Method> calls = new ArrayList<>();
        for (Method method : MicroSteps.class.getDeclaredMethods()) {
            if (java.lang.reflect.Modifier.isPublic(method.getModifiers())) {
                calls.add(method);
            }
        }
        // Reflection promises no order, and a seed must always tell the same run.
        calls.sort(Comparator.comparing(Method::getName));
        for (int run = 0; run < runs; run++) {
            new ModelTest(seed + run).play(calls);
        }
        Check.finish();
    }

    private void play(List<Method> calls) throws ReflectiveOperationException {
        x = new MicroSteps();
        model = new Model();
        boolean fine = random.nextInt(12) == 0 || bench();
        int n = 60 + random.nextInt(200);
        for (int i = 0; i < n && fine; i++) {
            if (random.nextInt(60) == 0) {
                fine = bench();
            } else if (random.nextInt(3) == 0) {
                fine = act();
            } else {
                Method call = calls.get(random.nextInt(calls.size()));
                fine = same(call, argumentsOf(call));
            }
        }
    }

    private boolean act() throws ReflectiveOperationException {
        switch (random.nextInt(9)) {
            case 0: return same("run", 1 + random.nextInt(5));
            case 1: return same("run", 1 + random.nextInt(60));
            case 2: return same("go", near(0), near(1), near(2));
            case 3: return same("queue", near(0), near(1), near(2));
            case 4: return random.nextInt(3) > 0 || same("halt");
            case 5: return same("load", random.nextInt(3), random.nextInt(801) - 400);
            case 6: return same("watch", random.nextInt(3), random.nextInt(3) * random.nextInt(1000));
            case 7: return same("trueUp");
            default: return random.nextInt(2) > 0 || same("undo");
        }
    }

    /** A place not far from where the axis is, so that moves end. */
    private int near(int axis) {
        int size = new int[] {1, 3, 20, 200, 3000}[random.nextInt(5)];
        return model.world.at[axis] + random.nextInt(2 * size + 1) - size;
    }

    private boolean bench() throws ReflectiveOperationException {
        byte[] bytes = Check.bytesOf(text());
        for (int from = 0; from < bytes.length; from += 20) {
            int[] n = Check.numbersAt(bytes, from);
            if (!same("feed", n[0], n[1], n[2], n[3], n[4])) {
                return false;
            }
        }
        return same("end", bytes.length) && same("bench") && same("fault", 0) && same("fault", 1);
    }

    private String text() {
        StringBuilder text = new StringBuilder();
        int axes = random.nextInt(12) == 0 ? 0 : 1 + random.nextInt(3);
        for (int a = 0; a < axes; a++) {
            text.append("axis " + "xyz".charAt(a) + " speed " + upTo(60) + " gain " + upTo(30) + " jerk " + upTo(10) + ";");
            if (random.nextInt(2) == 0) {
                int hold = random.nextInt(2) == 0 ? upTo(9999) : upTo(400);
                text.append("motor " + "xyz".charAt(a) + " hold " + hold + " mass " + upTo(999) + " damp "
                    + random.nextInt(91) + ";");
            }
            while (random.nextInt(3) == 0) {
                int from = upTo(60);
                text.append("band " + "xyz".charAt(a) + " " + from + " " + (from + random.nextInt(Math.min(9, 61 - from))) + ";");
            }
        }
        while (random.nextInt(4) > 0 && text.length() < 600) {
            text.append("fix " + random.nextInt(65) + (random.nextBoolean() ? " -" : " ") + random.nextInt(201) + " ;\n");
        }
        if (random.nextInt(2) == 0) {
            text.append("coil supply " + upTo(2000) + " loss " + upTo(99) + ";");
        }
        return random.nextInt(4) == 0 ? spoilt(text) : text.toString();
    }

    private String spoilt(StringBuilder text) {
        for (int i = random.nextInt(3); i >= 0; i--) {
            int at = random.nextInt(text.length() + 1);
            switch (random.nextInt(3)) {
                case 0 -> text.insert(at, SPOILS[random.nextInt(SPOILS.length)]);
                case 1 -> text.delete(at, Math.min(text.length(), at + upTo(4)));
                default -> text.append(SPOILS[random.nextInt(SPOILS.length)]);
            }
        }
        return text.substring(0, Math.min(880, text.length()));
    }

    private int upTo(int most) {
        return 1 + random.nextInt(random.nextInt(3) == 0 ? Math.min(most, 5) : most);
    }

    private int[] argumentsOf(Method call) {
        int[] arguments = new int[call.getParameterCount()];
        for (int i = 0; i < arguments.length; i++) {
            arguments[i] = argument(call.getName(), i);
        }
        return arguments;
    }

    private int argument(String name, int i) {
        if (random.nextInt(25) == 0) {
            return EDGES[random.nextInt(EDGES.length)];
        }
        switch (name) {
            case "path": return i < 3 ? near(i) : random.nextInt(7);
            case "pathAt": return i < 3 ? near(i) : i == 3 ? random.nextInt(3) : random.nextInt(80);
            case "stamp": return i < 3 ? near(i) : i == 3 ? random.nextInt(3) : 1 + random.nextInt(80);
            case "peak": return i < 3 ? near(i) : random.nextInt(2);
            case "most": return i < 3 ? near(i) : random.nextInt(3);
            case "drives": return i < 3 ? near(i) : i == 3 ? random.nextInt(3) : i == 4 ? random.nextInt(9) : random.nextInt(2);
            case "ramp": case "rampAt":
                return i == 0 ? random.nextInt(61) : i == 1 ? upTo(30) : i == 2 ? upTo(10) : random.nextInt(name.length() > 4 ? 20 : 3);
            case "needed": case "quickest":
                return i == 0 ? random.nextInt(3) : i == 1 ? upTo(5000) : random.nextInt(name.equals("needed") ? 300 : 2);
            case "swings": case "settles":
                return i == 0 ? random.nextInt(3) : i == 1 ? random.nextInt(2047) - 1023 : upTo(500);
            case "shake": return i == 0 ? random.nextInt(3) : i == 1 ? random.nextInt(61) : upTo(100);
            case "coil": return i == 0 ? random.nextInt(2001) : i == 1 ? random.nextInt(9) : upTo(200);
            case "ripple": return i == 0 ? random.nextInt(2001) : random.nextInt(9);
            case "follows": return i == 0 ? upTo(20) : i == 1 ? random.nextInt(9) : random.nextInt(3);
            case "mode": return upTo(20);
            case "mend": return random.nextInt(65);
            case "table": return i == 0 ? random.nextInt(65) : random.nextInt(2);
            case "current": return i == 0 ? random.nextInt(2000) - 1000 : random.nextInt(2);
            case "about": return random.nextInt(13);
            case "bands": return i == 0 ? random.nextInt(3) : upTo(60);
            case "axis": case "now": return i == 0 ? random.nextInt(3) : random.nextInt(8);
            case "carries": case "strain": case "worst": case "unsafe":
                return i == 0 ? random.nextInt(3) : upTo(60);
            default: return random.nextInt(3);
        }
    }

    private boolean same(String name, int... arguments) throws ReflectiveOperationException {
        Class<?>[] types = new Class<?>[arguments.length];
        java.util.Arrays.fill(types, int.class);
        return same(MicroSteps.class.getMethod(name, types), arguments);
    }

    private boolean same(Method call, int[] arguments) throws ReflectiveOperationException {
        Object[] boxed = java.util.Arrays.stream(arguments).boxed().toArray();
        Method twin = Model.class.getMethod(call.getName(), call.getParameterTypes());
        String row = call.getName() + java.util.Arrays.toString(arguments);
        int got;
        int due = (int) twin.invoke(model, boxed);
        try {
            got = (int) call.invoke(x, boxed);
        } catch (InvocationTargetException e) {
            e.getCause().printStackTrace(System.out);
            Check.holds(row + " throws nothing", false);
            return false;
        }
        told.add(row + " = " + due);
        Check.same(row, got, due);
        if (got != due) {
            System.out.println("  behind " + told.subList(Math.max(0, told.size() - 40), told.size()));
        }
        return got == due;
    }
}
