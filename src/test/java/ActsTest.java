/** Promises 21 to 31: go, halt, run, queue, watch, load, trueUp, undo, axis, now, bands. */
public final class ActsTest {
    public static void main(String[] args) {
        go();
        run();
        rotor();
        swingEdges();
        halt();
        haltCant();
        haltedMove();
        queue();
        queueLeavesOut();
        watch();
        watchTrips();
        load();
        trueUp();
        trueUpCant();
        undo();
        undoIsAll();
        undoAheadOfHalt();
        slipEdges();
        axisAndNow();
        bands();
        Check.finish();
    }

    private static void go() {
        MicroSteps x = Check.on(Check.TWO_AXES);
        Check.same("too far", x.go(30001, 0, 0), Check.NONE);
        Check.same("too far", x.go(0, -30001, 0), Check.NONE);
        Check.same("nothing goes", x.go(0, 0, 5), Check.NONE);
        Check.same("no act", x.about(8), 0);
        Check.same("go", x.go(100, 50, 99999), 17);
        Check.same("on", x.about(6), 1);
        Check.same("left", x.about(7), 17);
        Check.same("one is on", x.go(1, 1, 1), Check.NONE);
        Check.same("one act", x.about(8), 1);
        x.run(17);
        Check.same("there", x.now(0, 0), 100);
        Check.same("there", x.now(1, 0), 50);
        Check.same("ended", x.about(6), 0);
        Check.same("none left", x.about(7), 0);
        Check.same("go back", x.go(0, 0, 0), 17);
        Check.same("without axes", new MicroSteps().go(1, 1, 1), Check.NONE);
    }

    private static void run() {
        MicroSteps x = Check.on(Check.TWO_AXES);
        Check.same("none", x.run(0), Check.NONE);
        Check.same("too many", x.run(501), Check.NONE);
        Check.same("below", x.run(-1), Check.NONE);
        Check.same("no ticks", x.about(5), 0);
        Check.same("no act", x.about(8), 0);
        Check.same("without a move", x.run(500), 0);
        Check.same("ticks", x.about(5), 500);
        Check.same("an act", x.about(8), 1);
        x.go(-100, 0, 0);
        Check.same("left", x.run(1), 99);
        Check.same("left", x.run(5), 65);
        Check.same("ticks left", x.about(7), 9);
        Check.same("left", x.run(8), 1);
        Check.same("left", x.run(1), 0);
        Check.same("there", x.now(0, 0), -100);
        Check.same("other", x.now(1, 0), 0);
        Check.same("ticks", x.about(5), 515);
        Check.same("without axes", new MicroSteps().run(1), Check.NONE);
    }

    private static void rotor() {
        MicroSteps x = Check.on(Check.ONE_AXIS);
        x.go(100, 0, 0);
        x.run(1);
        // ANGLE 16: PULL 24; 24 / 40 is 0
        Check.now("rotor", x, 0, 1, 0, 0, 16, 0, 0);
        x.run(1);
        // at 4: ANGLE 64: SINE of 4 is 99; 99 / 40 = 2; 2 - 2 * 20 / 100 = 2
        Check.now("rotor", x, 0, 4, 2, 2, 62, 0, 0);
        x.run(1);
        // at 9: ANGLE 142: SINE of 8 is 196; 196 / 40 = 4; 6 - 6 * 20 / 100 = 5
        Check.now("rotor", x, 0, 9, 7, 5, 137, 0, 0);
        MicroSteps back = Check.on(Check.ONE_AXIS);
        back.go(-100, 0, 0);
        back.run(3);
        Check.now("rotor", back, 0, -9, -7, -5, -137, 0, 0);
        MicroSteps fixed = Check.on(Check.ONE_AXIS + "fix 4 200; fix 8 200;");
        fixed.go(100, 0, 0);
        fixed.run(3);
        Check.now("rotor", fixed, 0, 9, 7, 5, 137, 0, 0);
        MicroSteps loaded = Check.on(Check.ONE_AXIS);
        loaded.load(0, 2000);
        loaded.run(1);
        // (0 - 2000) / 40 = -50; -50 + 50 * 20 / 100 = -40
        Check.now("rotor", loaded, 0, 0, -40, -40, 40, 0, 0);
        loaded.run(1);
        // SINE of 2 is 49: (49 - 2000) / 40 = -48; -88 + 17 = -71
        Check.now("rotor", loaded, 0, 0, -111, -71, 111, 0, 0);
    }

    private static void swingEdges() {
        MicroSteps x = Check.on(Check.ONE_AXIS + "motor x hold 1 mass 1 damp 0;");
        x.load(0, -2000);
        x.run(1);
        Check.now("rotor", x, 0, 0, 2000, 2000, -2000, 1, 0);
        x.run(1);
        // 4,000, but 2,000 at the most
        Check.now("rotor", x, 0, 0, 4000, 2000, -4000, 1, -1);
        x.load(0, 2000);
        x.run(4);
        // 0, -2,000, -2,000 (of -4,000), -2,000
        Check.same("place", x.now(0, 1), 4000 - 6000);
        Check.same("swing", x.now(0, 2), -2000);
        MicroSteps damped = Check.on(Check.ONE_AXIS + "motor x hold 1 mass 1 damp 10;");
        damped.load(0, -2000);
        damped.run(1);
        Check.same("1800", damped.now(0, 2), 1800);
        damped.run(1);
        // 3,800 less 380 is 3,420: the bound is behind the damping
        Check.same("2000", damped.now(0, 2), 2000);
    }

    private static void halt() {
        MicroSteps x = Check.on(Check.ONE_AXIS);
        Check.same("none is on", x.halt(), Check.NONE);
        x.go(100, 0, 0);
        x.queue(0, 0, 0);
        Check.same("ahead of its first tick", x.halt(), 0);
        Check.same("off", x.about(6), 0);
        Check.same("none waits", x.about(10), 0);
        Check.same("none left", x.about(7), 0);
        Check.same("acts", x.about(8), 3);
        x.run(1);
        Check.same("stands", x.now(0, 0), 0);
        x.go(100, 0, 0);
        x.run(2);
        x.queue(0, 0, 0);
        Check.same("a ramp from 3", x.halt(), 3);
        Check.same("none waits", x.about(10), 0);
        Check.same("left", x.about(7), 3);
        Check.same("halted already", x.halt(), Check.NONE);
        Check.same("3 of 3, 2, 1", x.run(1), 3);
        Check.same("place", x.now(0, 0), 7);
        Check.same("halted yet", x.halt(), Check.NONE);
        Check.same("left", x.about(7), 2);
        Check.same("all", x.run(2), 0);
        Check.same("place", x.now(0, 0), 10);
        Check.same("off", x.about(6), 0);
        Check.same("none is on", x.halt(), Check.NONE);
    }

    private static void haltCant() {
        MicroSteps x = Check.on(Check.ONE_AXIS);
        x.go(-100, 0, 0);
        x.run(9);
        // from 10: 35, and 35 are left
        Check.same("just fits", x.halt(), 6);
        x.undo();
        x.run(1);
        int acts = x.about(8);
        // from 10 yet, 25 are left
        Check.same("does not fit", x.halt(), Check.NONE);
        Check.same("no act", x.about(8), acts);
        Check.same("goes on", x.run(5), 0);
        Check.same("to its end", x.now(0, 0), -100);
    }

    private static void haltedMove() {
        MicroSteps x = Check.on("axis x speed 60 gain 20 jerk 10;axis y speed 60 gain 5 jerk 2;");
        x.go(100, -33, 0);
        x.run(3);
        // 6, 18, 24 are 48, by GAIN 15 and JERK 6 of the MOVE
        Check.same("halt from 24", x.halt(), 3);
        Check.same("left", x.run(1), 24);
        Check.same("lead", x.now(0, 0), 72);
        // (2 * 72 * 33 + 100) / 200 = 24
        Check.same("other", x.now(1, 0), -24);
        Check.same("left", x.run(2), 0);
        Check.same("lead", x.now(0, 0), 96);
        Check.same("other", x.now(1, 0), -32);
        // a jerk above the gain has no RAMP down either
        MicroSteps none = Check.on("axis x speed 10 gain 2 jerk 3;");
        none.go(10, 0, 0);
        none.run(4);
        Check.same("ends at once", none.halt(), 0);
        Check.same("off", none.about(6), 0);
        none.run(3);
        Check.same("stands", none.now(0, 0), 4);
    }

    private static void queue() {
        MicroSteps x = Check.on(Check.TWO_AXES);
        Check.same("none is on", x.queue(5, 5, 5), Check.NONE);
        x.go(10, 0, 0);
        Check.same("too far", x.queue(30001, 0, 0), Check.NONE);
        Check.same("too far", x.queue(0, -30001, 0), Check.NONE);
        for (int i = 1; i <= 8; i++) {
            Check.same("waits", x.queue(10 + 10 * i, 0, 30001), i);
        }
        Check.same("nine", x.queue(1, 1, 1), Check.NONE);
        Check.same("acts", x.about(8), 9);
        Check.same("left of the first", x.run(5), 1);
        Check.same("ended", x.run(1), 0);
        Check.same("eight wait", x.about(10), 8);
        Check.same("none is on", x.queue(1, 1, 1), Check.NONE);
        Check.same("the next begins and goes", x.run(1), 9);
        Check.same("seven wait", x.about(10), 7);
        x.run(5 + 7 * 6);
        Check.same("all in order", x.now(0, 0), 90);
        Check.same("none waits", x.about(10), 0);
        Check.same("off", x.about(6), 0);
        Check.same("ticks", x.about(5), 54);
        x.go(0, 0, 0);
        x.queue(50, 9, 0);
        x.run(14);
        Check.same("at 0", x.now(0, 0), 0);
        Check.same("go while one waits", x.go(7, 0, 0), 5);
        Check.same("it waits yet", x.about(10), 1);
        x.run(6);
        Check.same("begins from there", x.run(1), 43 - (x.now(0, 0) - 7));
    }

    private static void queueLeavesOut() {
        MicroSteps x = Check.on(Check.ONE_AXIS);
        x.go(2, 0, 0);
        x.queue(2, 0, 0);
        x.queue(2, 7, 7);
        x.queue(5, 0, 0);
        x.queue(5, 0, 0);
        x.run(2);
        Check.same("wait", x.about(10), 4);
        Check.same("two are left out", x.run(1), 2);
        Check.same("place", x.now(0, 0), 3);
        Check.same("waits", x.about(10), 1);
        x.run(2);
        Check.same("waits yet", x.about(10), 1);
        Check.same("off", x.about(6), 0);
        x.run(1);
        Check.same("left out", x.about(10), 0);
        Check.same("place", x.now(0, 0), 5);
        Check.same("off", x.about(6), 0);
        x.go(6, 0, 0);
        for (int i = 0; i < 8; i++) {
            x.queue(6, 0, 0);
        }
        x.run(1);
        Check.same("eight wait", x.about(10), 8);
        x.run(1);
        Check.same("eight are left out in one tick", x.about(10), 0);
    }

    private static void watch() {
        MicroSteps x = Check.on(Check.TWO_AXES);
        Check.same("no axis", x.watch(2, 5), Check.NONE);
        Check.same("no axis", x.watch(-1, 5), Check.NONE);
        Check.same("below", x.watch(0, -1), Check.NONE);
        Check.same("beyond", x.watch(0, 2049), Check.NONE);
        Check.same("is that", x.watch(0, 0), Check.NONE);
        Check.same("no act", x.about(8), 0);
        Check.same("from 0", x.watch(1, 2048), 0);
        Check.same("is that", x.watch(1, 2048), Check.NONE);
        Check.same("from 2048", x.watch(1, 1), 2048);
        Check.same("limit", x.axis(1, 7), 1);
        Check.same("other", x.axis(0, 7), 0);
        Check.same("acts", x.about(8), 2);
    }

    private static void watchTrips() {
        MicroSteps x = Check.on(Check.WEAK + "axis y speed 9 gain 9 jerk 9;motor y hold 1 mass 40 damp 20;");
        x.watch(0, 145);
        x.watch(1, 48);
        x.go(100, 100, 0);
        x.queue(5, 5, 5);
        // places 1, 4 : ANGLES 16, 64 of both
        Check.same("tripped", x.run(5), 0);
        Check.same("in tick 2", x.about(11), 2);
        Check.same("by y", x.about(12), 1);
        Check.same("ends there", x.now(0, 0), 4);
        Check.same("none waits", x.about(10), 0);
        Check.same("off", x.about(6), 0);
        Check.same("not on: not tripped", x.run(5), 0);
        Check.same("tripped last", x.about(11), 2);
        x.watch(0, 64);
        x.go(50, 50, 0);
        x.run(1);
        Check.same("both: the first", x.about(12), 0);
        Check.same("in tick 11", x.about(11), 11);
        MicroSteps last = Check.on(Check.WEAK);
        last.watch(0, 32);
        last.go(2, 0, 0);
        last.run(2);
        Check.same("its last tick trips nothing", last.about(11), 0);
        Check.same("by none", last.about(12), Check.NONE);
        last.go(0, 0, 0);
        last.run(1);
        Check.same("16 is below 32", last.about(11), 0);
        MicroSteps edge = Check.on(Check.WEAK);
        edge.watch(0, 144);
        edge.go(-100, 0, 0);
        edge.run(9);
        Check.same("just the limit, below 0", edge.about(11), 3);
    }

    private static void load() {
        MicroSteps x = Check.on(Check.TWO_AXES);
        Check.same("no axis", x.load(2, 5), Check.CANT);
        Check.same("no axis", x.load(-1, 5), Check.CANT);
        Check.same("below", x.load(0, -2001), Check.CANT);
        Check.same("beyond", x.load(0, 2001), Check.CANT);
        Check.same("is that", x.load(0, 0), Check.CANT);
        Check.same("no act", x.about(8), 0);
        Check.same("from 0", x.load(0, -2000), 0);
        Check.same("from -2000", x.load(0, 2000), -2000);
        Check.same("is that", x.load(0, 2000), Check.CANT);
        Check.same("load", x.axis(0, 6), 2000);
        Check.same("acts", x.about(8), 2);
    }

    private static void trueUp() {
        MicroSteps x = Check.on(Check.WEAK + "axis y speed 9 gain 9 jerk 9;");
        Check.same("none is elsewhere", x.trueUp(), Check.NONE);
        Check.same("no act", x.about(8), 0);
        x.go(100, 0, 0);
        x.queue(3, 0, 0);
        x.run(9);
        Check.same("a move is on", x.trueUp(), Check.NONE);
        x.run(6);
        Check.same("stalled", x.now(0, 4), 9);
        Check.same("one", x.trueUp(), 1);
        Check.now("rotor", x, 0, 0, 0, 0, 0, 0, 0);
        Check.same("one waits yet", x.about(10), 1);
        Check.same("from there", x.run(1), 2);
        MicroSteps down = Check.on(Check.TWO_AXES);
        down.load(0, 100);
        down.load(1, 100);
        down.run(1);
        // -2: -1 downwards
        Check.same("both", down.trueUp(), 2);
        Check.now("rotor", down, 0, -1, -2, -2, -14, 0, 0);
        Check.same("swing stays", down.now(1, 2), -2);
        Check.same("acts", down.about(8), 4);
    }

    private static void trueUpCant() {
        MicroSteps x = Check.on(Check.ONE_AXIS + "motor x hold 1 mass 1 damp 0;");
        x.load(0, -2000);
        for (int i = 0; i < 240; i++) {
            x.run(1);
        }
        Check.same("just there", x.now(0, 1), 480000);
        Check.same("30,000 can be", x.trueUp(), 1);
        x.undo();
        x.run(1);
        Check.same("beyond", x.trueUp(), Check.NONE);
        // out by -1,024; then (1 + 2,000) / 1: 977, to -47; then -930: 47, to 0
        MicroSteps held = Check.on(Check.ONE_AXIS + "motor x hold 1 mass 1 damp 0;");
        held.load(0, 1024);
        held.run(1);
        Check.same("stalled in tick 1", held.now(0, 4), 1);
        held.load(0, -2000);
        held.run(1);
        held.load(0, 930);
        held.run(1);
        Check.same("at 0 again", held.now(0, 1), 0);
        Check.same("stalled yet", held.now(0, 4), 1);
        Check.same("none elsewhere, one stalled", held.trueUp(), 0);
        Check.same("not stalled", held.now(0, 4), 0);
        Check.same("nothing more", held.trueUp(), Check.NONE);
    }

    private static void undo() {
        MicroSteps x = Check.on(Check.ONE_AXIS);
        Check.same("none", x.undo(), Check.NONE);
        for (int i = 1; i <= 12; i++) {
            x.load(0, i);
        }
        Check.same("ten are kept", x.about(8), 10);
        for (int left = 9; left >= 0; left--) {
            Check.same("undo", x.undo(), left);
            Check.same("load", x.axis(0, 6), left + 2);
        }
        Check.same("no more", x.undo(), Check.NONE);
        Check.same("the oldest went", x.axis(0, 6), 2);
        x.load(0, 9);
        Check.same("kept again", x.undo(), 0);
        Check.same("load", x.axis(0, 6), 2);
    }

    private static void undoIsAll() {
        MicroSteps x = Check.on(Check.WEAK);
        x.go(100, 0, 0);
        x.queue(0, 0, 0);
        x.run(4);
        Check.same("halt", x.halt(), 5);
        x.run(2);
        x.undo();
        Check.same("halted, left", x.about(7), 5);
        x.undo();
        Check.same("not halted, left", x.about(7), 11);
        Check.same("waits", x.about(10), 1);
        Check.same("goes on", x.run(1), 75);
        x.watch(0, 1);
        x.run(1);
        Check.same("tripped", x.about(11), 6);
        Check.same("by", x.about(12), 0);
        x.undo();
        Check.same("not tripped", x.about(11), 0);
        Check.same("by none", x.about(12), Check.NONE);
        Check.same("on", x.about(6), 1);
        x.undo();
        Check.same("limit", x.axis(0, 7), 0);
        x.run(10);
        Check.same("stalled", x.now(0, 4), 9);
        x.trueUp();
        Check.same("at 0", x.now(0, 0), 0);
        x.undo();
        Check.same("at 100", x.now(0, 0), 100);
        Check.same("stalled", x.now(0, 4), 9);
        x.undo();
        Check.same("at 25", x.now(0, 0), 25);
        Check.same("not stalled", x.now(0, 4), 0);
        Check.same("ticks", x.about(5), 5);
        Check.same("a run", x.undo(), 3);
        Check.same("a run", x.undo(), 2);
        Check.same("one waits", x.about(10), 1);
        Check.same("the one that waits", x.undo(), 1);
        Check.same("none waits", x.about(10), 0);
        Check.same("on", x.about(6), 1);
        Check.same("the move", x.undo(), 0);
        Check.same("off", x.about(6), 0);
        Check.same("no more", x.undo(), Check.NONE);
    }

    /** What a halt looks at is taken back too. */
    private static void undoAheadOfHalt() {
        MicroSteps x = Check.on("axis x speed 60 gain 20 jerk 10;axis y speed 60 gain 5 jerk 2;");
        x.go(100, 33, 0);
        x.queue(0, 33, 0);
        x.run(2);
        x.run(20);
        x.undo();
        // 18 was the speed: 6, 12, 18 by GAIN 15 and JERK 6; 24 are gone
        Check.same("halt", x.halt(), 3);
        Check.same("left", x.run(1), 18);
        Check.same("lead", x.now(0, 0), 42);
        Check.same("other", x.now(1, 0), 14);
        MicroSteps gains = Check.on("axis x speed 60 gain 30 jerk 1;axis y speed 60 gain 1 jerk 10;");
        gains.go(1000, 500, 0);
        gains.queue(0, 500, 0);
        gains.run(10);
        gains.run(100);
        gains.undo();
        Check.same("by its own gain", gains.halt(), gains.ramp(19, 2, 1, 0));
        Check.holds("not by another", gains.ramp(19, 2, 1, 0) != gains.ramp(19, 30, 1, 0));
    }

    private static void slipEdges() {
        MicroSteps x = Check.on(Check.WEAK);
        x.go(128, 0, 0);
        x.run(100);
        Check.same("angle", x.now(0, 3), 2048);
        Check.same("slipped at 2,048", x.now(0, 5), 1);
        MicroSteps light = Check.on(Check.ONE_AXIS + "motor x hold 1 mass 1 damp 0;");
        light.load(0, -2000);
        light.run(1);
        light.load(0, 1952);
        light.run(1);
        Check.same("angle", light.now(0, 3), -2048);
        Check.same("not slipped at -2,048", light.now(0, 5), 0);
        light.load(0, 47);
        light.run(1);
        Check.same("angle", light.now(0, 3), -2049);
        Check.same("slipped at -2,049", light.now(0, 5), -1);
        light.load(0, -1999);
        light.run(1);
        Check.same("angle", light.now(0, 3), -4049);
        light.load(0, 2000);
        light.run(1);
        light.load(0, -2000);
        light.run(1);
        Check.same("angle", light.now(0, 3), -6049);
        light.load(0, 1904);
        light.run(1);
        Check.same("angle", light.now(0, 3), -6145);
        Check.same("slipped two at -6,145", light.now(0, 5), -2);
    }

    private static void axisAndNow() {
        MicroSteps x = Check.on("axis a speed 7 gain 6 jerk 5;axis b speed 1 gain 2 jerk 3;motor b hold 11 mass 12 damp 13;");
        int[] a = {7, 6, 5, 1000, 40, 20, 0, 0};
        int[] b = {1, 2, 3, 11, 12, 13, 0, 0};
        for (int what = 0; what < 8; what++) {
            Check.same("axis a " + what, x.axis(0, what), a[what]);
            Check.same("axis b " + what, x.axis(1, what), b[what]);
        }
        for (int axis : new int[] {-1, 2, 3, Integer.MAX_VALUE, Integer.MIN_VALUE}) {
            Check.same("no axis", x.axis(axis, 0), Check.CANT);
            Check.same("no axis", x.now(axis, 0), Check.CANT);
        }
        Check.same("what", x.axis(0, 8), Check.CANT);
        Check.same("what", x.axis(0, -1), Check.CANT);
        Check.same("what", x.now(0, 6), Check.CANT);
        Check.same("what", x.now(0, -1), Check.CANT);
        MicroSteps slip = Check.on(Check.WEAK);
        slip.go(256, 0, 0);
        slip.run(14);
        Check.holds("below half a cycle", slip.now(0, 3) < 2048);
        Check.same("none slipped", slip.now(0, 5), 0);
        slip.run(2);
        Check.holds("above half a cycle", slip.now(0, 3) >= 2048);
        Check.same("slipped one", slip.now(0, 5), 1);
    }

    private static void bands() {
        MicroSteps x = Check.on(Check.TWO_AXES + "band x 5 9;band x 9 12;band y 1 60;");
        Check.same("4", x.bands(0, 4), 0);
        Check.same("5", x.bands(0, 5), 1);
        Check.same("9", x.bands(0, 9), 2);
        Check.same("12", x.bands(0, 12), 1);
        Check.same("13", x.bands(0, 13), 0);
        Check.same("1", x.bands(1, 1), 1);
        Check.same("60", x.bands(1, 60), 1);
        int[][] wrong = {{0, 0}, {0, 61}, {2, 5}, {-1, 5}};
        for (int[] w : wrong) {
            Check.same("bands of what can't be", x.bands(w[0], w[1]), Check.NONE);
        }
    }
}
