/** Promises 11 and 12: ramp, rampAt. */
public final class RampTest {
    public static void main(String[] args) {
        MicroSteps x = new MicroSteps();
        speeds(x, 10, 2, 1, 1, 3, 5, 7, 9, 10);
        speeds(x, 3, 2, 1, 1, 2, 3);
        speeds(x, 4, 2, 1, 1, 3, 4);
        speeds(x, 9, 30, 1, 1, 3, 6, 8, 9);
        speeds(x, 60, 30, 10, 10, 30, 50, 60);
        speeds(x, 59, 30, 10, 10, 30, 40, 50);
        speeds(x, 5, 1, 1, 1, 2, 3, 4, 5);
        speeds(x, 7, 3, 2, 2, 4, 6);
        speeds(x, 0, 30, 1);
        speeds(x, 9, 9, 10);
        speeds(x, 60, 9, 10);
        speeds(x, 10, 10, 10, 10);
        speeds(x, 60, 1, 1, upTo(60));
        wrong(x, -1, 1, 1);
        wrong(x, 61, 1, 1);
        wrong(x, 1, 0, 1);
        wrong(x, 1, 31, 1);
        wrong(x, 1, 1, 0);
        wrong(x, 1, 1, 11);
        Check.same("what below", x.ramp(10, 2, 1, -1), Check.NONE);
        Check.same("what beyond", x.ramp(10, 2, 1, 3), Check.NONE);
        Check.finish();
    }

    private static int[] upTo(int n) {
        int[] all = new int[n];
        for (int i = 0; i < n; i++) {
            all[i] = i + 1;
        }
        return all;
    }

    private static void speeds(MicroSteps x, int v, int a, int j, int... due) {
        String name = "ramp " + v + " " + a + " " + j;
        int sum = 0;
        for (int k = 1; k <= due.length; k++) {
            Check.same(name + " at " + k, x.rampAt(v, a, j, k), due[k - 1]);
            sum += due[k - 1];
        }
        Check.same(name + " ticks", x.ramp(v, a, j, 0), due.length);
        Check.same(name + " reaches", x.ramp(v, a, j, 1), due.length == 0 ? 0 : due[due.length - 1]);
        Check.same(name + " micros", x.ramp(v, a, j, 2), sum);
        Check.same(name + " at 0", x.rampAt(v, a, j, 0), Check.NONE);
        Check.same(name + " beyond", x.rampAt(v, a, j, due.length + 1), Check.NONE);
    }

    private static void wrong(MicroSteps x, int v, int a, int j) {
        Check.same("ramp of what can't be", x.ramp(v, a, j, 0), Check.NONE);
        Check.same("rampAt of what can't be", x.rampAt(v, a, j, 1), Check.NONE);
    }
}
