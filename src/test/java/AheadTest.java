/** Promises 32 to 40: stallIn, calmIn, carries, strain, swings, settles, shake, worst, unsafe. */
public final class AheadTest {
    public static void main(String[] args) {
        stallIn();
        calmIn();
        carries();
        strain();
        swings();
        settles();
        shake();
        worst();
        unsafe();
        nothingIsDone();
        Check.finish();
    }

    private static void stallIn() {
        MicroSteps x = Check.on(Check.WEAK);
        Check.same("not", x.stallIn(0), Check.NONE);
        x.go(100, 0, 0);
        // 65 MICROS behind 9 TICKS: 1,040
        Check.same("in 9", x.stallIn(0), 9);
        x.run(8);
        Check.same("in 1", x.stallIn(0), 1);
        x.run(1);
        Check.same("is", x.stallIn(0), 0);
        Check.same("no axis", x.stallIn(1), Check.NONE);
        Check.same("no axis", x.stallIn(-1), Check.NONE);
        MicroSteps first = Check.on(Check.LIGHT);
        first.load(0, 1024);
        Check.same("in the first tick of all", first.stallIn(0), 1);
        first.run(1);
        Check.same("it was", first.stallIn(0), 0);
        MicroSteps waits = Check.on(Check.WEAK);
        waits.go(40, 0, 0);
        waits.queue(100, 0, 0);
        int ticks = waits.path(40, 0, 0, 0);
        // 40 and 25 more: behind 5 TICKS of the second
        Check.same("in one that waits", waits.stallIn(0), ticks + 5);
        waits.watch(0, 500);
        Check.same("tripped ahead of it", waits.stallIn(0), Check.NONE);
        MicroSteps edge = Check.on(Check.WEAK);
        edge.go(64, 0, 0);
        Check.same("1,024 just at its end", edge.stallIn(0), edge.path(64, 0, 0, 0));
        MicroSteps below = Check.on(Check.WEAK);
        below.go(-63, 0, 0);
        Check.same("1,008 is not", below.stallIn(0), Check.NONE);
        MicroSteps late = Check.on("axis x speed 1 gain 1 jerk 1;motor x hold 1 mass 999 damp 0;axis y speed 1 gain 1 jerk 1;");
        late.go(1, 1999, 0);
        late.queue(64, 1999, 0);
        Check.same("in 2,062: beyond 2,000", late.stallIn(0), Check.NONE);
        late.undo();
        late.undo();
        late.go(0, 1937, 0);
        late.queue(64, 1937, 0);
        late.queue(0, 1937, 0);
        Check.same("beyond by 1", late.stallIn(0), Check.NONE);
        late.run(1);
        Check.same("in 2,000", late.stallIn(0), 2000);
    }

    private static void calmIn() {
        Check.same("no axes", new MicroSteps().calmIn(), Check.NONE);
        MicroSteps x = Check.on(Check.WEAK);
        Check.same("now", x.calmIn(), 0);
        x.go(10, 0, 0);
        Check.same("behind the move", x.calmIn(), 6);
        x.queue(10, 0, 0);
        Check.same("one that is left out", x.calmIn(), 7);
        x.run(6);
        Check.same("it waits", x.calmIn(), 1);
        x.run(1);
        Check.same("calm", x.calmIn(), 0);
        MicroSteps light = Check.on(Check.LIGHT);
        light.load(0, 5);
        Check.same("never", light.calmIn(), Check.NONE);
        light.run(1);
        light.load(0, -5);
        // swing -5 and 5 more: 0, but 5 push yet
        light.run(1);
        Check.same("swing", light.now(0, 2), 0);
        Check.same("pushed yet", light.calmIn(), Check.NONE);
        light.load(0, 0);
        Check.same("not any more", light.calmIn(), 0);
        // a SWING of 1 is not damped, and what makes it 0 pushes yet: who once swings is not calm any more
        MicroSteps swung = Check.on(Check.ONE_AXIS + "axis y speed 9 gain 3 jerk 1;motor y hold 900 mass 40 damp 90;");
        swung.go(0, 1, 0);
        Check.same("not pushed: behind the move", swung.calmIn(), 1);
        swung.undo();
        swung.go(0, 99, 0);
        Check.same("one of both swings", swung.calmIn(), Check.NONE);
        MicroSteps far = Check.on("axis x speed 1 gain 1 jerk 1;motor x hold 1 mass 999 damp 0;");
        far.go(2001, 0, 0);
        Check.same("behind 2,001", far.calmIn(), Check.NONE);
        far.run(1);
        Check.same("behind 2,000", far.calmIn(), 2000);
    }

    private static void carries() {
        MicroSteps x = Check.on(Check.LIGHT);
        // SWING is LOAD each TICK more: LOAD * n * (n + 1) / 2 below 1,024
        Check.same("1 tick", x.carries(0, 1), 1023);
        // 341 * 3 = 1,023
        Check.same("2 ticks", x.carries(0, 2), 341);
        // 170 * 6 = 1,020
        Check.same("3 ticks", x.carries(0, 3), 170);
        Check.same("200 ticks", x.carries(0, 200), 0);
        x.load(0, 1024);
        Check.same("its own load does not count", x.carries(0, 1), 1023);
        x.run(1);
        Check.same("stalled", x.carries(0, 1), Check.NONE);
        int[][] wrong = {{1, 1}, {-1, 1}, {0, 0}, {0, 201}};
        for (int[] w : wrong) {
            Check.same("carries of what can't be", Check.on(Check.LIGHT).carries(w[0], w[1]), Check.NONE);
        }
        MicroSteps swung = Check.on(Check.LIGHT);
        swung.load(0, -600);
        swung.run(1);
        // PLACE 600 and SWING 600 ahead: LOADS below 177 stall, greater ones hold it back
        Check.same("greater ones hold", swung.carries(0, 1), 2000);
        MicroSteps none = Check.on(Check.LIGHT);
        none.load(0, -1000);
        none.run(1);
        none.load(0, 0);
        // PLACE and SWING 1,000 ahead: behind 2 TICKS at 3,000 - 3 * LOAD: 1,341 holds it above -1,024
        Check.same("neither too much nor too little", none.carries(0, 2), 1341);
    }

    private static void strain() {
        MicroSteps x = Check.on(Check.WEAK);
        Check.same("none", x.strain(0, 1), 0);
        x.go(-100, 0, 0);
        Check.same("1 tick", x.strain(0, 1), 16);
        Check.same("2 ticks", x.strain(0, 2), 64);
        Check.same("all", x.strain(0, 1000), 1600);
        MicroSteps light = Check.on(Check.LIGHT);
        light.load(0, 100);
        light.run(1);
        light.load(0, -150);
        light.run(1);
        // SWING 100 back, then 150 on: ANGLE 100, 50; now 150 more each TICK
        Check.same("now", light.now(0, 3), 50);
        light.load(0, -10);
        // ANGLE 50 is over, -10 comes
        Check.same("what comes, not what is", light.strain(0, 1), 10);
        int[][] wrong = {{1, 1}, {-1, 1}, {0, 0}, {0, 1001}};
        for (int[] w : wrong) {
            Check.same("strain of what can't be", x.strain(w[0], w[1]), Check.NONE);
        }
    }

    private static void swings() {
        MicroSteps x = Check.on(Check.ONE_AXIS);
        Check.same("still", x.swings(0, 0, 500), 0);
        Check.same("off", x.swings(0, 64, 1), 1);
        Check.same("off", x.swings(0, -64, 1), 1);
        // 2 a TICK at first; it comes to rest behind 0, ends by sign 0
        Model model = new Model();
        model.told = new Model.Parser(Check.bytesOf(Check.ONE_AXIS)).parse();
        for (int a : new int[] {-1023, -500, 33, 1000, 1023}) {
            for (int n : new int[] {1, 10, 99, 500}) {
                Check.same("swings from " + a + " in " + n, x.swings(0, a, n), model.swings(0, a, n));
            }
        }
        x.load(0, 2000);
        Check.same("by the load", x.swings(0, 0, 1), 1);
        MicroSteps light = Check.on(Check.LIGHT);
        Check.same("no pull", light.swings(0, 1000, 500), 0);
        int[][] wrong = {{1, 1, 1}, {-1, 1, 1}, {0, 1024, 1}, {0, -1024, 1}, {0, 1, 0}, {0, 1, 501}};
        for (int[] w : wrong) {
            Check.same("swings of what can't be", x.swings(w[0], w[1], w[2]), Check.NONE);
        }
    }

    private static void settles() {
        MicroSteps x = Check.on(Check.ONE_AXIS);
        Check.same("at once", x.settles(0, 0), 0);
        // SINE of 1 is 24: 24 / 40 is 0
        Check.same("at once", x.settles(0, 31), 0);
        Check.same("at once", x.settles(0, -31), 0);
        // SINE of 2 is 49: pushed by 1, damped by 0: from 32 to 31, SWING 1 stays by DAMP 20 ..
        Check.holds("not at once", x.settles(0, 32) != 0);
        MicroSteps light = Check.on(Check.LIGHT);
        Check.same("no pull", light.settles(0, 1023), 0);
        light.load(0, 1);
        Check.same("never", light.settles(0, 0), Check.NONE);
        Model model = new Model();
        model.told = new Model.Parser(Check.bytesOf(Check.ONE_AXIS)).parse();
        for (int a = -1023; a <= 1023; a += 93) {
            Check.same("settles from " + a, x.settles(0, a), model.settles(0, a));
        }
        int[][] wrong = {{1, 1}, {-1, 1}, {0, 1024}, {0, -1024}};
        for (int[] w : wrong) {
            Check.same("settles of what can't be", x.settles(w[0], w[1]), Check.NONE);
        }
    }

    private static void shake() {
        MicroSteps x = Check.on(Check.WEAK);
        Check.same("none", x.shake(0, 0, 500), 0);
        Check.same("1 by 1", x.shake(0, 1, 1), 16);
        Check.same("7 by 9", x.shake(0, 7, 9), 7 * 9 * 16);
        Check.same("60 by 5", x.shake(0, 60, 5), 4800);
        MicroSteps light = Check.on(Check.LIGHT);
        light.load(0, 32);
        // ANGLE 16 + 32, 32 + 96, 48 + 192
        Check.same("loaded", light.shake(0, 1, 3), 240);
        light.load(0, -32);
        // 16 - 32, 32 - 96, 48 - 192
        Check.same("either way", light.shake(0, 1, 3), 144);
        light.run(2);
        Check.same("a rotor of its own", light.shake(0, 1, 3), 144);
        int[][] wrong = {{1, 1, 1}, {-1, 1, 1}, {0, -1, 1}, {0, 61, 1}, {0, 1, 0}, {0, 1, 501}};
        for (int[] w : wrong) {
            Check.same("shake of what can't be", x.shake(w[0], w[1], w[2]), Check.NONE);
        }
    }

    private static void worst() {
        MicroSteps x = Check.on(Check.WEAK);
        Check.same("the fastest", x.worst(0, 5), 10);
        MicroSteps light = Check.on(Check.LIGHT);
        light.load(0, -50);
        // by 1: 34; 2: 18; 3: 2; 4: 14; .. 6: 46; .. 10: 110
        Check.same("the fastest", light.worst(0, 1), 10);
        light.load(0, -88);
        // by 1: 72; by 10: 72
        Check.same("of like ones the least", light.worst(0, 1), 1);
        light.load(0, -89);
        Check.same("the slowest", light.worst(0, 1), 1);
        int[][] wrong = {{1, 1}, {-1, 1}, {0, 0}, {0, 101}};
        for (int[] w : wrong) {
            Check.same("worst of what can't be", x.worst(w[0], w[1]), Check.NONE);
        }
        Check.same("100 ticks", x.worst(0, 100), 10);
    }

    private static void unsafe() {
        MicroSteps x = Check.on(Check.WEAK);
        // 8 TICKS by 8: 64 MICROS
        Check.same("8, 9, 10", x.unsafe(0, 8), 3);
        Check.same("none", x.unsafe(0, 6), 0);
        Check.same("10", x.unsafe(0, 7), 1);
        MicroSteps banded = Check.on(Check.WEAK + "band x 9 9;band x 9 12;");
        Check.same("8", banded.unsafe(0, 8), 1);
        int[][] wrong = {{1, 1}, {-1, 1}, {0, 0}, {0, 101}};
        for (int[] w : wrong) {
            Check.same("unsafe of what can't be", x.unsafe(w[0], w[1]), Check.NONE);
        }
        Check.same("100 ticks", x.unsafe(0, 100), 10);
    }

    private static void nothingIsDone() {
        MicroSteps x = Check.on(Check.WEAK);
        x.go(100, 0, 0);
        x.queue(0, 0, 0);
        x.watch(0, 2000);
        x.run(2);
        x.stallIn(0);
        x.calmIn();
        x.carries(0, 20);
        x.strain(0, 50);
        x.swings(0, 20, 20);
        x.settles(0, 20);
        x.shake(0, 9, 20);
        x.worst(0, 20);
        x.unsafe(0, 20);
        x.drives(9, 0, 0, 0, 0, 0);
        x.path(9, 0, 0, 0);
        int[] due = {1, 0, 0, 300, 5, 2, 1, 13, 4, 0, 1, 0, -1};
        for (int what = 0; what < due.length; what++) {
            Check.same("about " + what, x.about(what), due[what]);
        }
        Check.same("at", x.now(0, 0), 4);
        Check.same("angle", x.now(0, 3), 64);
        Check.same("load", x.axis(0, 6), 0);
        Check.same("goes on", x.run(1), 91);
    }
}
