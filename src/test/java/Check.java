import java.nio.charset.StandardCharsets;
import java.util.Arrays;

/** What the tests share: told answers, and benches fed as texts. */
final class Check {
    static final int NONE = -1;
    static final int CANT = Integer.MIN_VALUE;
    static final String ONE_AXIS = "axis x speed 10 gain 2 jerk 1;";

    private static int wrong = 0;
    private static int asked = 0;

    private Check() {
    }

    static void same(String what, long got, long due) {
        asked++;
        if (got != due) {
            wrong++;
            System.out.println(what + " answered " + got + ", due is " + due);
        }
    }

    static void holds(String what, boolean is) {
        same(what, is ? 1 : 0, 1);
    }

    static void finish() {
        System.out.println(asked + " looked at, " + wrong + " wrong");
        if (wrong != 0 || asked == 0) {
            System.exit(1);
        }
    }

    static byte[] bytesOf(String text) {
        return text.getBytes(StandardCharsets.ISO_8859_1);
    }

    /** The five numbers of the twenty bytes from a place on, padded by 0. */
    static int[] numbersAt(byte[] bytes, int from) {
        int[] numbers = new int[5];
        byte[] part = Arrays.copyOfRange(bytes, from, from + 20);
        for (int i = 0; i < 20; i++) {
            numbers[i / 4] = numbers[i / 4] << 8 | part[i] & 255;
        }
        return numbers;
    }

    static void feed(MicroSteps x, String text) {
        byte[] bytes = bytesOf(text);
        for (int from = 0; from < bytes.length; from += 20) {
            int[] n = numbersAt(bytes, from);
            x.feed(n[0], n[1], n[2], n[3], n[4]);
        }
        x.end(bytes.length);
    }

    static int bench(MicroSteps x, String text) {
        feed(x, text);
        return x.bench();
    }

    /** A new object with a bench that must be without a FAULT. */
    static MicroSteps on(String text) {
        MicroSteps x = new MicroSteps();
        if (bench(x, text) == NONE) {
            same("fault of " + text + " at " + x.fault(1), x.fault(0), 0);
        }
        return x;
    }
}
