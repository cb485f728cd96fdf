/** The edges that promises 32 to 40 name, one sentence of the document after the other. */
public final class EdgesAheadTest {
    private static final String SLOW_TWO = Check.SLOW + "axis y speed 1 gain 1 jerk 1;";

    public static void main(String[] args) {
        promise32();
        promise33();
        promise33Steady();
        promise34();
        promise35();
        promise36();
        promise37();
        promise38();
        promise39();
        promise40();
        Check.finish();
    }

    private static MicroSteps loaded(String bench, int load) {
        MicroSteps x = Check.on(bench);
        x.load(0, load);
        return x;
    }

    private static void promise32() {
        Check.sentence(32, "In how many TICKS more (1 .. 2,000) an AXIS would be STALLED first; 0: it is");
        MicroSteps x = loaded(Check.LIGHT, 1024);
        Check.same("in the next", x.stallIn(0), 1);
        x.run(1);
        Check.same("it is", x.stallIn(0), 0);
        Check.same("by -1,024", loaded(Check.LIGHT, -1024).stallIn(0), 1);
        Check.same("by 1,023: in the second", loaded(Check.LIGHT, 1023).stallIn(0), 2);
        MicroSteps late = Check.on(SLOW_TWO);
        late.go(0, 1937, 0);
        late.queue(64, 1937, 0);
        Check.same("2,001 is too late", late.stallIn(0), Check.NONE);
        late.run(1);
        Check.same("2,000", late.stallIn(0), 2000);
        late.run(1);
        Check.same("1,999", late.stallIn(0), 1999);
        Check.same("y is another", Check.on(SLOW_TWO).stallIn(1), Check.NONE);
        Check.sentence(32, "NONE if not, or there is none such");
        Check.same("not", Check.on(Check.SLOW).stallIn(0), Check.NONE);
        for (int axis : new int[] {-1, 1, 3, Check.LEAST, Check.MOST}) {
            Check.same("axis " + axis, x.stallIn(axis), Check.NONE);
        }
        Check.same("no axes", new MicroSteps().stallIn(0), Check.NONE);
    }

    private static void promise33() {
        Check.sentence(33, "Behind how many TICKS more (0 .. 2,000) all is STEADY first");
        MicroSteps x = Check.on(Check.SLOW);
        Check.same("0", x.calmIn(), 0);
        x.go(2001, 0, 0);
        Check.same("2,001 is too late", x.calmIn(), Check.NONE);
        x.run(1);
        Check.same("2,000", x.calmIn(), 2000);
        x.run(1);
        Check.same("1,999", x.calmIn(), 1999);
        Check.sentence(33, "NONE if behind none of these, or there are no AXES");
        Check.same("it swings for ever", loaded(Check.ONE_AXIS, 40).calmIn(), Check.NONE);
        Check.same("no axes", new MicroSteps().calmIn(), Check.NONE);
        Check.same("no axes", Check.on("fix 1 1;").calmIn(), Check.NONE);
    }

    private static void promise33Steady() {
        Check.sentence(33, "STEADY: no MOVE is on, none waits, and of each AXIS SWING is 0, and so is (PULL less LOAD) / MASS as it is");
        MicroSteps move = Check.on(Check.SLOW);
        move.go(3, 0, 0);
        Check.same("a move is on", move.calmIn(), 3);
        move.queue(4, 0, 0);
        Check.same("one waits", move.calmIn(), 4);
        move.queue(4, 0, 0);
        Check.same("one that is left out waits", move.calmIn(), 5);
        move.run(4);
        Check.same("it waits yet", move.calmIn(), 1);
        move.run(1);
        Check.same("none waits", move.calmIn(), 0);
        MicroSteps swings = loaded(Check.LIGHT, 5);
        swings.run(1);
        swings.load(0, 0);
        Check.now("SWING -5, no push", swings, 0, 0, -5, -5, 5);
        Check.same("SWING is not 0", swings.calmIn(), Check.NONE);
        MicroSteps pushed = loaded(Check.LIGHT, 5);
        pushed.run(1);
        pushed.load(0, -5);
        pushed.run(1);
        Check.now("SWING 0, pushed", pushed, 0, 0, -5, 0, 5);
        Check.same("pushed yet", pushed.calmIn(), Check.NONE);
        pushed.load(0, 0);
        Check.same("neither", pushed.calmIn(), 0);
        Check.same("39 / 40 is 0", loaded(Check.ONE_AXIS, 39).calmIn(), 0);
        Check.same("-39 / 40 is 0", loaded(Check.ONE_AXIS, -39).calmIn(), 0);
        Check.same("-40 / 40 is -1", loaded(Check.ONE_AXIS, -40).calmIn(), Check.NONE);
        // ANGLE 16: PULL 24, less -15 is 39, less -16 is 40
        MicroSteps pulled = Check.on("axis x speed 1 gain 1 jerk 1;");
        pulled.go(1, 0, 0);
        pulled.run(1);
        Check.same("24", pulled.calmIn(), 0);
        pulled.load(0, -15);
        Check.same("39", pulled.calmIn(), 0);
        pulled.load(0, -16);
        Check.same("40", pulled.calmIn(), Check.NONE);
        MicroSteps second = Check.on(SLOW_TWO);
        second.load(1, 40);
        Check.same("of each", second.calmIn(), Check.NONE);
        MicroSteps third = Check.on(SLOW_TWO + "axis z speed 1 gain 1 jerk 1;");
        Check.same("of three", third.calmIn(), 0);
        third.load(2, 40);
        Check.same("of the third", third.calmIn(), Check.NONE);
    }

    private static void promise34() {
        Check.sentence(34, "The greatest LOAD (0 .. 2,000) by which an AXIS would not be STALLED in n TICKS more (1 .. 200)");
        MicroSteps x = Check.on(Check.LIGHT);
        Check.same("1 tick", x.carries(0, 1), 1023);
        Check.same("2 ticks: 3 * 341", x.carries(0, 2), 341);
        // 45 TICKS by 1: 1,035
        Check.same("44 ticks: 990", x.carries(0, 44), 1);
        Check.same("45 ticks", x.carries(0, 45), 0);
        Check.same("200 ticks", x.carries(0, 200), 0);
        MicroSteps ahead = loaded(Check.LIGHT, -600);
        ahead.run(1);
        // PLACE and SWING 600: ANGLE is LOAD less 1,200
        Check.same("2,000 at the most", ahead.carries(0, 1), 2000);
        MicroSteps behind = loaded(Check.LIGHT, 341);
        behind.run(1);
        behind.load(0, 0);
        behind.run(1);
        // PLACE -682, SWING -341: ANGLE is LOAD and 1,023
        Check.same("0 at the least", behind.carries(0, 1), 0);
        // ANGLE 1,008 behind 63 TICKS; a LOAD below 40 pushes by 0
        MicroSteps slow = Check.on(Check.SLOW);
        slow.go(100, 0, 0);
        Check.same("63 ticks", slow.carries(0, 63), 39);
        MicroSteps stays = Check.on("axis x speed 1 gain 1 jerk 1;motor x hold 1 mass 999 damp 0;");
        // 998 / 999 is 0; by 1 a TICK more it stalls in 45 TICKS
        Check.same("200 ticks", stays.carries(0, 200), 998);
        Check.sentence(34, "all else as it is");
        MicroSteps tripped = Check.on(Check.SLOW);
        tripped.go(100, 0, 0);
        tripped.watch(0, 500);
        // a LOAD of 40 to 79 swings by 4 a TICK at last: tripped at 514 in TICK 26, 1,022 behind TICK 153
        Check.same("tripped, 153", tripped.carries(0, 153), 79);
        Check.same("tripped, 154", tripped.carries(0, 154), 39);
        tripped.load(0, 2000);
        Check.same("its own load does not count", tripped.carries(0, 154), 39);
        Check.sentence(34, "NONE if by none (it is STALLED already, too), or one can't be");
        Check.same("64 ticks: by none", slow.carries(0, 64), Check.NONE);
        MicroSteps out = loaded(Check.LIGHT, 600);
        out.run(1);
        Check.same("by none", out.carries(0, 1), Check.NONE);
        MicroSteps stalled = loaded(Check.LIGHT, 1024);
        stalled.run(1);
        stalled.load(0, -2000);
        stalled.run(1);
        Check.holds("not any more so far", Math.abs(stalled.now(0, 3)) < 1024);
        Check.same("STALLED already", stalled.carries(0, 1), Check.NONE);
        for (int n : new int[] {0, 201, -1, Check.LEAST, Check.MOST}) {
            Check.same("n " + n, x.carries(0, n), Check.NONE);
        }
        for (int axis : new int[] {-1, 1, 3, Check.LEAST, Check.MOST}) {
            Check.same("axis " + axis, x.carries(axis, 1), Check.NONE);
        }
    }

    private static void promise35() {
        Check.sentence(35, "The greatest ANGLE (without sign) of an AXIS in n TICKS more (1 .. 1,000)");
        MicroSteps x = Check.on(Check.SLOW);
        Check.same("none", x.strain(0, 1000), 0);
        x.go(-2000, 0, 0);
        Check.same("1", x.strain(0, 1), 16);
        Check.same("999", x.strain(0, 999), 15984);
        Check.same("1,000", x.strain(0, 1000), 16000);
        MicroSteps back = Check.on(Check.SLOW);
        back.go(50, 0, 0);
        back.queue(-40, 0, 0);
        back.run(50);
        Check.same("what is now does not count", back.strain(0, 1), 49 * 16);
        back.run(60);
        Check.same("below 0 is greater", back.strain(0, 1000), 40 * 16);
        Check.sentence(35, "NONE if one can't be");
        for (int n : new int[] {0, 1001, -1, Check.LEAST, Check.MOST}) {
            Check.same("n " + n, x.strain(0, n), Check.NONE);
        }
        for (int axis : new int[] {-1, 1, 3, Check.LEAST, Check.MOST}) {
            Check.same("axis " + axis, x.strain(axis, 1), Check.NONE);
        }
    }

    private static void promise36() {
        Check.sentence(36, "A ROTOR like that of an AXIS, LOAD as it is, the AXIS at 0, SWING 0, let go at an ANGLE a (-1,023 .. 1,023)");
        MicroSteps x = Check.on(Check.ONE_AXIS);
        Check.same("1,023", x.swings(0, 1023, 500), 40);
        Check.same("-1,023", x.swings(0, -1023, 500), 40);
        Check.same("0", x.swings(0, 0, 500), 0);
        // SINE of 1 is 24: 24 / 40 is 0
        Check.same("31", x.swings(0, 31, 500), 0);
        Check.same("32", x.swings(0, 32, 1), 1);
        x.load(0, -16);
        Check.same("16 with a LOAD of -16: 40 / 40", x.swings(0, 16, 1), 1);
        Check.same("15", x.swings(0, 15, 500), 0);
        x.load(0, 0);
        x.go(100, 0, 0);
        x.run(9);
        Check.same("not where it is", x.swings(0, 0, 500), 0);
        Check.sentence(36, "in how many of n TICKS (1 .. 500) the sign of its SWING (one of three: above 0, below 0, 0) is another one than behind the TICK ahead (0 at first)");
        // from 64: 2, 3, 4 .. to -39 in TICK 28, 0 in TICK 29, -1 in TICK 30
        int[][] due = {{1, 1}, {28, 1}, {29, 2}, {30, 3}, {52, 3}, {53, 4}, {54, 5}, {500, 41}};
        for (int[] row : due) {
            Check.same("from 64 in " + row[0], x.swings(0, 64, row[0]), row[1]);
            Check.same("from -64 in " + row[0], x.swings(0, -64, row[0]), row[1]);
        }
        Check.sentence(36, "NONE if one can't be");
        int[][] wrong = {{-1, 1, 1}, {1, 1, 1}, {3, 1, 1}, {0, 1024, 1}, {0, -1024, 1}, {0, 1, 0}, {0, 1, 501},
            {0, 1, -1}, {Check.LEAST, 1, 1}, {Check.MOST, 1, 1}, {0, Check.LEAST, 1}, {0, Check.MOST, 1}, {0, 1, Check.LEAST}, {0, 1, Check.MOST}};
        for (int[] w : wrong) {
            Check.same("of " + w[0] + " " + w[1] + " " + w[2], x.swings(w[0], w[1], w[2]), Check.NONE);
        }
    }

    private static void promise37() {
        Check.sentence(37, "Let go so, behind how many TICKS (0 .. 2,000) SWING, and (PULL less LOAD) / MASS, are 0 first");
        MicroSteps x = Check.on(Check.ONE_AXIS);
        Check.same("0", x.settles(0, 0), 0);
        Check.same("31", x.settles(0, 31), 0);
        Check.same("-31", x.settles(0, -31), 0);
        x.load(0, -15);
        // 24 and 15 are 39, at 15 there is no PULL
        Check.same("31 with a LOAD of -15", x.settles(0, 31), 0);
        x.load(0, -16);
        Check.same("15 with a LOAD of -16", x.settles(0, 15), 0);
        Check.same("1,023 without a pull", Check.on(Check.LIGHT).settles(0, 1023), 0);
        Check.same("-1,023 without a pull", Check.on(Check.LIGHT).settles(0, -1023), 0);
        Check.sentence(37, "NONE if behind none of these, or one can't be");
        // a SWING of 1 is not damped, and what makes it 0 pushes yet
        Check.same("31 with a LOAD of -16", x.settles(0, 31), Check.NONE);
        Check.same("32", Check.on(Check.ONE_AXIS).settles(0, 32), Check.NONE);
        Check.same("-32", Check.on(Check.ONE_AXIS).settles(0, -32), Check.NONE);
        Check.same("by the LOAD", loaded(Check.LIGHT, 1).settles(0, 0), Check.NONE);
        int[][] wrong = {{-1, 1}, {1, 1}, {3, 1}, {0, 1024}, {0, -1024}, {Check.LEAST, 1}, {Check.MOST, 1}, {0, Check.LEAST}, {0, Check.MOST}};
        for (int[] w : wrong) {
            Check.same("of " + w[0] + " " + w[1], Check.on(Check.LIGHT).settles(w[0], w[1]), Check.NONE);
        }
    }

    private static void promise38() {
        Check.sentence(38, "a ROTOR like its own, PLACE and SWING 0, LOAD as it is, whose AXIS begins at 0 and goes w each TICK: the greatest ANGLE without sign (behind a TICK)");
        MicroSteps x = Check.on(Check.SLOW);
        Check.same("0", x.shake(0, 0, 500), 0);
        Check.same("1 in 1", x.shake(0, 1, 1), 16);
        Check.same("60 in 1", x.shake(0, 60, 1), 960);
        Check.same("1 in 500", x.shake(0, 1, 500), 8000);
        // (16 + 24 / 40), 32: 49 / 40 = 1: 31; 47: SINE 2: 1: 45 ..
        MicroSteps pulled = Check.on("axis x speed 1 gain 1 jerk 1;motor x hold 1000 mass 40 damp 0;");
        Check.same("pulled, 2", pulled.shake(0, 1, 2), 31);
        Check.same("pulled, 3", pulled.shake(0, 1, 3), 45);
        MicroSteps light = loaded(Check.LIGHT, -32);
        // 16 - 32, 32 - 96, 48 - 192
        Check.same("LOAD as it is, below 0", light.shake(0, 1, 3), 144);
        light.run(3);
        light.go(50, 0, 0);
        light.run(2);
        Check.same("not from where it is", light.shake(0, 1, 3), 144);
        // 48 - 5, 96 - 15, .. 48 * n - 5 * n * (n + 1) / 2: greatest behind 9: 207
        light.load(0, -5);
        Check.same("the greatest, not the last", light.shake(0, 3, 18), 48 * 9 - 5 * 45);
        Check.sentence(38, "SHAKE (w 0 .. 60, n 1 .. 500); NONE if one can't be");
        int[][] wrong = {{-1, 1, 1}, {1, 1, 1}, {3, 1, 1}, {0, -1, 1}, {0, 61, 1}, {0, 1, 0}, {0, 1, 501}, {0, 1, -1},
            {Check.LEAST, 1, 1}, {Check.MOST, 1, 1}, {0, Check.LEAST, 1}, {0, Check.MOST, 1}, {0, 1, Check.LEAST}, {0, 1, Check.MOST}};
        for (int[] w : wrong) {
            Check.same("of " + w[0] + " " + w[1] + " " + w[2], x.shake(w[0], w[1], w[2]), Check.NONE);
        }
    }

    private static void promise39() {
        Check.sentence(39, "The speed (1 .. SPEED) by which SHAKE in n TICKS (1 .. 100) is greatest, of like ones the least");
        String stays = "gain 1 jerk 1;motor x hold 1 mass 999 damp 0;";
        Check.same("SPEED 60", Check.on("axis x speed 60 " + stays).worst(0, 1), 60);
        Check.same("SPEED 60", Check.on("axis x speed 60 " + stays).worst(0, 100), 60);
        Check.same("SPEED 1", Check.on("axis x speed 1 " + stays).worst(0, 100), 1);
        MicroSteps light = loaded(Check.LIGHT, -88);
        // by 1: 16 - 88; by 10: 160 - 88: 72 both
        Check.same("like ones", light.worst(0, 1), 1);
        light.load(0, -87);
        Check.same("71 and 73", light.worst(0, 1), 10);
        light.load(0, -89);
        Check.same("73 and 71", light.worst(0, 1), 1);
        // 16 - 16: no ANGLE at all
        MicroSteps none = loaded("axis x speed 1 gain 1 jerk 1;motor x hold 1 mass 1 damp 0;", -16);
        Check.same("0 is greatest", none.shake(0, 1, 1), 0);
        Check.same("0 is greatest", none.worst(0, 1), 1);
        Check.sentence(39, "NONE if one can't be");
        for (int n : new int[] {0, 101, -1, Check.LEAST, Check.MOST}) {
            Check.same("n " + n, light.worst(0, n), Check.NONE);
        }
        for (int axis : new int[] {-1, 1, 3, Check.LEAST, Check.MOST}) {
            Check.same("axis " + axis, light.worst(axis, 1), Check.NONE);
        }
    }

    private static void promise40() {
        Check.sentence(40, "How many speeds (1 .. SPEED) lie in no BAND of an AXIS, but SHAKE by them in n TICKS (1 .. 100) is STALLED (1,024 or more)");
        String stays = "gain 1 jerk 1;motor x hold 1 mass 999 damp 0;";
        MicroSteps x = Check.on("axis x speed 60 " + stays);
        Check.same("1 tick: 64 would be needed", x.unsafe(0, 1), 0);
        Check.same("2 ticks: 32 .. 60", x.unsafe(0, 2), 29);
        Check.same("63 ticks: 2 .. 60", x.unsafe(0, 63), 59);
        Check.same("64 ticks: 1 .. 60", x.unsafe(0, 64), 60);
        Check.same("100 ticks", x.unsafe(0, 100), 60);
        Check.same("SPEED 31", Check.on("axis x speed 31 " + stays).unsafe(0, 2), 0);
        Check.same("SPEED 32", Check.on("axis x speed 32 " + stays).unsafe(0, 2), 1);
        MicroSteps banded = Check.on("axis x speed 60 " + stays + "axis y speed 60 gain 1 jerk 1;band x 32 59;"
            + "band y 1 60;band x 32 32;");
        Check.same("60 alone", banded.unsafe(0, 2), 1);
        Check.same("31 alone", Check.on("axis x speed 60 " + stays + "band x 32 60;band x 1 30;").unsafe(0, 3), 1);
        // -1,024 by 1: 16 - 1,040; by 2: 32 - 1,040
        Check.same("either way", loaded(Check.LIGHT, -1040).unsafe(0, 1), 1);
        Check.same("1,023", loaded(Check.LIGHT, -1039).unsafe(0, 1), 0);
        Check.sentence(40, "NONE if one can't be");
        for (int n : new int[] {0, 101, -1, Check.LEAST, Check.MOST}) {
            Check.same("n " + n, x.unsafe(0, n), Check.NONE);
        }
        for (int axis : new int[] {-1, 1, 3, Check.LEAST, Check.MOST}) {
            Check.same("axis " + axis, x.unsafe(axis, 1), Check.NONE);
        }
    }
}
