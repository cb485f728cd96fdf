/** Promises 11 and 12: ramp, rampAt. */
public final class RampTest {
    public static void main(String[] args) {
        MicroSteps x = new MicroSteps();
        Check.ramp(10, 2, 1, 1, 3, 5, 7, 9, 10);
        Check.ramp(3, 2, 1, 1, 2, 3);
        Check.ramp(4, 2, 1, 1, 3, 4);
        Check.ramp(9, 30, 1, 1, 3, 6, 8, 9);
        Check.ramp(60, 30, 10, 10, 30, 50, 60);
        Check.ramp(59, 30, 10, 10, 30, 40, 50);
        Check.ramp(5, 1, 1, 1, 2, 3, 4, 5);
        Check.ramp(7, 3, 2, 2, 4, 6);
        Check.ramp(0, 30, 1);
        Check.ramp(9, 9, 10);
        Check.ramp(60, 9, 10);
        Check.ramp(10, 10, 10, 10);
        Check.ramp(60, 1, 1, Check.by(1, 60));
        wrong(x, -1, 1, 1);
        wrong(x, 61, 1, 1);
        wrong(x, 1, 0, 1);
        wrong(x, 1, 31, 1);
        wrong(x, 1, 1, 0);
        wrong(x, 1, 1, 11);
        Check.same("what below", x.ramp(10, 2, 1, -1), Check.NONE);
        Check.same("what beyond", x.ramp(10, 2, 1, 3), Check.NONE);
        Check.finish();
    }

    private static void wrong(MicroSteps x, int v, int a, int j) {
        Check.same("ramp of what can't be", x.ramp(v, a, j, 0), Check.NONE);
        Check.same("rampAt of what can't be", x.rampAt(v, a, j, 1), Check.NONE);
    }
}
