import java.nio.charset.StandardCharsets;
import java.util.Arrays;
import java.util.function.IntSupplier;

/** What the tests share: told answers, sentences of the document, and benches fed as texts. */
final class Check {
    static final int NONE = -1;
    static final int CANT = Integer.MIN_VALUE;
    static final String ONE_AXIS = "axis x speed 10 gain 2 jerk 1;";
    static final String TWO_AXES = "axis x speed 10 gain 2 jerk 1;axis y speed 4 gain 2 jerk 1;";
    /** A rotor that nothing but a load moves. */
    static final String WEAK = ONE_AXIS + "motor x hold 1 mass 40 damp 20;";
    /** PULL is 1 or -1 at a QUARTER's end alone, so that a LOAD alone rules the ROTOR. */
    static final String LIGHT = ONE_AXIS + "motor x hold 1 mass 1 damp 0;";

    /** A MICRO a TICK, and a rotor that stays: the ANGLE is 16 more each TICK. */
    static final String SLOW = "axis x speed 1 gain 1 jerk 1;motor x hold 1 mass 40 damp 20;";
    static final int LEAST = Integer.MIN_VALUE;
    static final int MOST = Integer.MAX_VALUE;

    private static int wrong = 0;
    private static int asked = 0;
    private static int askedAhead = 0;
    private static String sentence = "";

    private Check() {
    }

    /** What is looked at from here on belongs to these words of the document, told or used by that promise. */
    static void sentence(int promise, String words) {
        closeSentence();
        sentence = "promise " + promise + " (" + words + "): ";
        askedAhead = asked;
    }

    private static void closeSentence() {
        if (!sentence.isEmpty() && asked == askedAhead) {
            wrong++;
            System.out.println(sentence + "nothing was looked at");
        }
        sentence = "";
    }

    static void same(String what, long got, long due) {
        asked++;
        if (got != due) {
            wrong++;
            System.out.println(sentence + what + " answered " + got + ", due is " + due);
        }
    }

    static void holds(String what, boolean is) {
        same(what, is ? 1 : 0, 1);
    }

    /** The call answers so, and nothing that can be asked is another than ahead of it. */
    static void doesNothing(String what, MicroSteps x, IntSupplier call, int due) {
        String ahead = allOf(x);
        same(what, call.getAsInt(), due);
        String behind = allOf(x);
        holds(what + " does nothing: " + ahead + " is " + behind, ahead.equals(behind));
    }

    /** All that can be asked of what there is, and of what comes soon. */
    static String allOf(MicroSteps x) {
        StringBuilder all = new StringBuilder();
        for (int what = 0; what <= 12; what++) {
            all.append(x.about(what)).append(' ');
        }
        all.append(x.fault(0)).append(' ').append(x.fault(1));
        for (int a = 0; a < x.about(0); a++) {
            all.append(" | axis ").append(a);
            for (int what = 0; what <= 7; what++) {
                all.append(' ').append(x.axis(a, what));
            }
            all.append(" now");
            for (int what = 0; what <= 5; what++) {
                all.append(' ').append(x.now(a, what));
            }
            all.append(" ahead ").append(x.strain(a, 1)).append(' ').append(x.strain(a, 300)).append(' ')
                .append(x.stallIn(a));
        }
        all.append(" | ").append(x.calmIn());
        for (int q = 0; q <= 64; q++) {
            all.append(' ').append(x.table(q, 1));
        }
        return all.toString();
    }

    static void finish() {
        closeSentence();
        System.out.println(asked + " looked at, " + wrong + " wrong");
        if (wrong != 0 || asked == 0) {
            System.exit(1);
        }
    }

    static byte[] bytesOf(String text) {
        return text.getBytes(StandardCharsets.ISO_8859_1);
    }

    /** The five numbers of the twenty bytes from a place on, padded by 0. */
    static int[] numbersAt(byte[] bytes, int from) {
        int[] numbers = new int[5];
        byte[] part = Arrays.copyOfRange(bytes, from, from + 20);
        for (int i = 0; i < 20; i++) {
            numbers[i / 4] = numbers[i / 4] << 8 | part[i] & 255;
        }
        return numbers;
    }

    static void feed(MicroSteps x, String text) {
        byte[] bytes = bytesOf(text);
        for (int from = 0; from < bytes.length; from += 20) {
            int[] n = numbersAt(bytes, from);
            x.feed(n[0], n[1], n[2], n[3], n[4]);
        }
        x.end(bytes.length);
    }

    static int bench(MicroSteps x, String text) {
        feed(x, text);
        return x.bench();
    }

    /** A new object with a bench that must be without a FAULT. */
    static MicroSteps on(String text) {
        MicroSteps x = new MicroSteps();
        if (bench(x, text) == NONE) {
            same("fault of " + text + " at " + x.fault(1), x.fault(0), 0);
        }
        return x;
    }

    static void fits(String text) {
        MicroSteps x = new MicroSteps();
        holds("fits: " + text, bench(x, text) != NONE);
        same("fault of " + text, x.fault(0), 0);
        same("place in " + text, x.fault(1), NONE);
    }

    static void fault(String text, int code, int place) {
        MicroSteps x = new MicroSteps();
        same("bench of " + text, bench(x, text), NONE);
        same("fault of " + text, x.fault(0), code);
        same("place in " + text, x.fault(1), place);
    }

    /** Where an axis is, PLACE, SWING, ANGLE, the TICK of its stall, cycles slipped: as many as are told. */
    static void now(String name, MicroSteps x, int axis, int... due) {
        for (int what = 0; what < due.length; what++) {
            same(name + ": now of axis " + axis + " what " + what, x.now(axis, what), due[what]);
        }
    }

    /** The RAMP has these speeds, and no more. */
    static void ramp(int v, int a, int j, int... speeds) {
        MicroSteps x = new MicroSteps();
        String name = "ramp " + v + " " + a + " " + j;
        int sum = 0;
        for (int k = 1; k <= speeds.length; k++) {
            same(name + " at " + k, x.rampAt(v, a, j, k), speeds[k - 1]);
            sum += speeds[k - 1];
        }
        same(name + " ticks", x.ramp(v, a, j, 0), speeds.length);
        same(name + " reaches", x.ramp(v, a, j, 1), speeds.length == 0 ? 0 : speeds[speeds.length - 1]);
        same(name + " micros", x.ramp(v, a, j, 2), sum);
        same(name + " at 0", x.rampAt(v, a, j, 0), NONE);
        same(name + " no more", x.rampAt(v, a, j, speeds.length + 1), NONE);
    }

    /** TICKS, LEAD, WAY, SPEED, the speed reached, TICKS of the RAMP, TICKS in BANDS: as many as are told. */
    static void path(String name, MicroSteps x, int[] to, int... due) {
        for (int what = 0; what < due.length; what++) {
            same(name + ": path to " + to[0] + " " + to[1] + " " + to[2] + " what " + what,
                x.path(to[0], to[1], to[2], what), due[what]);
        }
    }

    static int[] to(int x, int y, int z) {
        return new int[] {x, y, z};
    }

    /** By a step more each time. */
    static int[] by(int step, int n) {
        int[] all = new int[n];
        for (int i = 0; i < n; i++) {
            all[i] = step * (i + 1);
        }
        return all;
    }
}
