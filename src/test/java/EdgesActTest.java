import java.util.function.Consumer;

/** The edges that promises 21 to 31 name, one sentence of the document after the other. */
public final class EdgesActTest {
    public static void main(String[] args) {
        promise21();
        promise22();
        promise22Left();
        promise23();
        promise23Rotor();
        promise23Order();
        promise24();
        promise24Begins();
        promise25();
        promise25Tripped();
        promise26();
        promise27();
        promise27Cant();
        promise28();
        promise28Acts();
        promise29();
        promise30();
        promise30Slipped();
        promise31();
        Check.finish();
    }

    private static void promise21() {
        Check.sentence(21, "A MOVE begins: how many TICKS it takes");
        MicroSteps x = Check.on(Check.TWO_AXES);
        Check.same("go", x.go(70, 7, Check.MOST), 12);
        Check.same("on", x.about(6), 1);
        Check.same("left", x.about(7), 12);
        Check.same("it is where it was", x.now(0, 0), 0);
        Check.same("an act", x.about(8), 1);
        Check.same("the farthest", Check.on(Check.SLOW).go(30000, 0, 0), 30000);
        Check.same("the farthest", Check.on(Check.SLOW).go(-30000, 0, 0), 30000);
        Check.sentence(21, "NONE, doing nothing, if it can't be, nothing goes, or one is on");
        Check.doesNothing("one is on", x, () -> x.go(5, 5, 0), Check.NONE);
        x.run(3);
        x.halt();
        Check.doesNothing("a halted one is on", x, () -> x.go(5, 5, 0), Check.NONE);
        MicroSteps rest = Check.on(Check.TWO_AXES);
        for (int far : new int[] {30001, -30001, Check.LEAST, Check.MOST}) {
            Check.doesNothing("x " + far, rest, () -> rest.go(far, 0, 0), Check.NONE);
            Check.doesNothing("y " + far, rest, () -> rest.go(5, far, 0), Check.NONE);
            Check.doesNothing("nothing goes", rest, () -> rest.go(0, 0, far), Check.NONE);
        }
    }

    private static void promise22() {
        Check.sentence(22, "SPEEDS of the RAMP to the speed of its latest TICK (0: none yet) by its GAIN and JERK, the last first");
        MicroSteps x = Check.on(Check.ONE_AXIS);
        x.go(95, 0, 0);
        x.queue(5, 0, 0);
        Check.same("none yet", x.halt(), 0);
        Check.same("it ended there", x.about(6), 0);
        Check.same("none left", x.about(7), 0);
        Check.same("none waits", x.about(10), 0);
        x.run(1);
        Check.same("where it was", x.now(0, 0), 0);
        // 1, 3, 5, 7, 9, 10, 8: the RAMP to 8 is 1, 3, 5, 7, 8
        x.go(95, 0, 0);
        x.run(7);
        Check.same("at 43", x.now(0, 0), 43);
        Check.same("halt from 8", x.halt(), 5);
        int[] places = {51, 58, 63, 66, 67, 67};
        int[] left = {16, 9, 4, 1, 0, 0};
        for (int k = 0; k < places.length; k++) {
            Check.same("left behind " + (k + 1), x.run(1), left[k]);
            Check.same("at", x.now(0, 0), places[k]);
        }
        x.go(0, 0, 0);
        Check.same("none yet of the next", x.halt(), 0);
        x.watch(0, 1);
        x.go(-900, 0, 0);
        x.run(9);
        Check.holds("tripped", x.about(11) > 0);
        x.go(0, 0, 0);
        Check.same("none yet behind one that was tripped", x.halt(), 0);
        // GAIN and JERK along the LEAD are 2 * 60 / 30 = 4, 1 * 60 / 30 = 2: 2, 6 .. and 2, 4, 6 down
        MicroSteps two = Check.on("axis x speed 60 gain 30 jerk 10;axis y speed 30 gain 2 jerk 1;");
        two.go(60, 30, 0);
        two.run(2);
        Check.same("at 8", two.now(0, 0), 8);
        Check.same("halt from 6", two.halt(), 3);
        Check.same("left", two.run(1), 6);
        two.run(2);
        Check.same("at 20", two.now(0, 0), 20);
        Check.same("at 10", two.now(1, 0), 10);
        // the RAMP to 1 by JERK 3 has no TICKS
        MicroSteps bare = Check.on("axis x speed 10 gain 30 jerk 3;");
        bare.go(5, 0, 0);
        bare.run(1);
        Check.same("none down", bare.halt(), 0);
        Check.same("off", bare.about(6), 0);
        bare.run(1);
        Check.same("at 1", bare.now(0, 0), 1);
    }

    private static void promise22Left() {
        Check.sentence(22, "(if they are more than what is left of WAY, nothing happens)");
        MicroSteps x = Check.on(Check.ONE_AXIS);
        x.go(100, 0, 0);
        x.run(9);
        Check.same("35 of 35", x.halt(), 6);
        x.undo();
        x.run(1);
        Check.doesNothing("35 of 25", x, x::halt, Check.NONE);
        x.run(4);
        Check.doesNothing("6 of 1", x, x::halt, Check.NONE);
        x.run(1);
        Check.same("to its end", x.now(0, 0), 100);
        // 1, 2, 2, 1: the RAMP to 2 is 3
        MicroSteps short1 = Check.on("axis x speed 2 gain 1 jerk 1;");
        short1.go(6, 0, 0);
        short1.run(2);
        Check.same("3 of 3", short1.halt(), 2);
        short1.undo();
        short1.run(1);
        Check.doesNothing("3 of 1", short1, short1::halt, Check.NONE);
        MicroSteps slow = Check.on(Check.SLOW);
        slow.go(3, 0, 0);
        slow.run(2);
        Check.same("1 of 1", slow.halt(), 1);
        Check.sentence(22, "it ends there: how many TICKS (none waits any more)");
        MicroSteps waits = Check.on(Check.ONE_AXIS);
        waits.go(100, 0, 0);
        waits.queue(5, 0, 0);
        waits.queue(6, 0, 0);
        waits.run(2);
        Check.same("halt", waits.halt(), 3);
        Check.same("none waits", waits.about(10), 0);
        Check.same("ticks", waits.about(7), 3);
        Check.same("one may wait again", waits.queue(9, 0, 0), 1);
        waits.run(3);
        Check.same("off", waits.about(6), 0);
        Check.same("ends at 10", waits.now(0, 0), 10);
        Check.sentence(22, "NONE, doing nothing, if none is on, it is halted already, or so");
        Check.doesNothing("none is on, one waits", waits, waits::halt, Check.NONE);
        MicroSteps none = Check.on(Check.ONE_AXIS);
        Check.doesNothing("none is on", none, none::halt, Check.NONE);
        none.go(100, 0, 0);
        none.run(6);
        none.halt();
        Check.doesNothing("halted already", none, none::halt, Check.NONE);
        none.run(5);
        Check.doesNothing("halted yet", none, none::halt, Check.NONE);
        none.run(1);
        Check.doesNothing("ended", none, none::halt, Check.NONE);
        none.go(0, 0, 0);
        none.run(1);
        Check.same("the next may be halted", none.halt(), 1);
    }

    private static void promise23() {
        Check.sentence(23, "n TICKS (1 .. 500): how many MICROS of the LEAD are left; 0 without a MOVE");
        MicroSteps x = Check.on(Check.TWO_AXES);
        Check.same("1 without", x.run(1), 0);
        Check.same("500 without", x.run(500), 0);
        Check.same("ticks", x.about(5), 501);
        x.go(0, -1000, 0);
        // 1, 3, 4, then 984 in 246 TICKS, 4, 3, 1
        Check.same("left", x.run(1), 999);
        Check.same("left", x.run(2), 992);
        Check.same("left but one", x.run(248), 1);
        Check.same("on", x.about(6), 1);
        Check.same("none left", x.run(1), 0);
        Check.same("off", x.about(6), 0);
        Check.sentence(23, "NONE, doing nothing, if n can't be, or there are no AXES");
        for (int n : new int[] {0, 501, -1, Check.LEAST, Check.MOST}) {
            Check.doesNothing("run " + n, x, () -> x.run(n), Check.NONE);
        }
        MicroSteps none = Check.on("coil supply 1 loss 1;");
        Check.doesNothing("no axes", none, () -> none.run(1), Check.NONE);
        Check.doesNothing("no axes", none, () -> none.run(500), Check.NONE);
    }

    private static MicroSteps loaded(String motor, int load) {
        MicroSteps x = Check.on(Check.ONE_AXIS + motor);
        x.load(0, load);
        x.run(1);
        return x;
    }

    private static void promise23Rotor() {
        Check.sentence(23, "ANGLE: 16 * the place of the AXIS less PLACE");
        Check.now("31 ahead", loaded("motor x hold 1 mass 1 damp 0;", -31), 0, 0, 31, 31, -31, 0, 0);
        Check.sentence(23, "PULL: HOLD * SINE of (ANGLE / 16) / 1,000 (without CORRECTIONS)");
        // ANGLE -31: SINE of -1 is -24; 9,999 * -24 / 1,000 = -239; 31 - 239 + 31 = -177
        MicroSteps strong = loaded("motor x hold 9999 mass 1 damp 0;fix 1 200;", -31);
        strong.run(1);
        Check.now("pulled back", strong, 0, 0, -146, -177, 146);
        MicroSteps other = loaded("motor x hold 9999 mass 1 damp 0;", 31);
        other.run(1);
        Check.now("pulled on", other, 0, 0, 146, 177, -146);
        // ANGLE -15: SINE of 0
        MicroSteps near = loaded("motor x hold 9999 mass 1 damp 0;", -15);
        near.run(1);
        Check.now("not pulled", near, 0, 0, 15 + 30, 30, -45);
        Check.sentence(23, "SWING becomes SWING + (PULL less LOAD) / MASS, then SWING - SWING * DAMP / 100");
        int[][] due = {{39, 0}, {40, -1}, {79, -1}, {80, -2}, {160, -4}, {199, -4}, {200, -4}, {240, -5}, {400, -8}};
        for (int[] row : due) {
            Check.same("by " + row[0], loaded("", row[0]).now(0, 2), row[1]);
            Check.same("by " + -row[0], loaded("", -row[0]).now(0, 2), -row[1]);
        }
        Check.same("damp 90", loaded("motor x hold 1 mass 1 damp 90;", 10).now(0, 2), -1);
        Check.same("damp 90", loaded("motor x hold 1 mass 1 damp 90;", 9).now(0, 2), -1);
        Check.same("damp 90", loaded("motor x hold 1 mass 1 damp 90;", 11).now(0, 2), -2);
        Check.same("damp 0", loaded("motor x hold 1 mass 1 damp 0;", 11).now(0, 2), -11);
        Check.same("mass 999", loaded("motor x hold 1 mass 999 damp 0;", 998).now(0, 2), 0);
        Check.same("mass 999", loaded("motor x hold 1 mass 999 damp 0;", -999).now(0, 2), 1);
        Check.sentence(23, "-2,000 at the least, 2,000 at the most; PLACE is SWING more");
        MicroSteps up = loaded("motor x hold 1 mass 1 damp 0;", -2000);
        Check.now("2,000", up, 0, 0, 2000, 2000);
        up.run(1);
        Check.now("no more", up, 0, 0, 4000, 2000);
        MicroSteps down = loaded("motor x hold 1 mass 1 damp 0;", 2000);
        Check.now("-2,000", down, 0, 0, -2000, -2000);
        down.run(1);
        Check.now("no less", down, 0, 0, -4000, -2000);
        // 1,800; then 3,800 less 380: the bounds come behind the damping
        MicroSteps damped = loaded("motor x hold 1 mass 1 damp 10;", 2000);
        Check.same("-1,800", damped.now(0, 2), -1800);
        damped.run(1);
        Check.same("-2,000", damped.now(0, 2), -2000);
    }

    private static void promise23Order() {
        Check.sentence(23, "IN A TICK: one that waits begins (if none is on); AXES go; ROTORS, AXIS by AXIS; who is STALLED; whether the MOVE is TRIPPED");
        // at 4 behind two TICKS: ANGLE 64: 99 / 40 = 2
        MicroSteps x = Check.on(Check.ONE_AXIS);
        x.go(100, 0, 0);
        x.run(2);
        Check.now("the ROTOR goes behind its AXIS", x, 0, 4, 2, 2, 62);
        // 64 MICROS away in the TICK in which it begins at 63
        MicroSteps slow = Check.on(Check.SLOW);
        slow.watch(0, 1024);
        slow.go(63, 0, 0);
        slow.queue(66, 0, 0);
        slow.run(63);
        Check.same("off", slow.about(6), 0);
        Check.same("not stalled", slow.now(0, 4), 0);
        slow.run(1);
        Check.same("begun, gone", slow.now(0, 0), 64);
        Check.same("stalled in it", slow.now(0, 4), 64);
        Check.same("tripped in it", slow.about(11), 64);
        Check.same("off", slow.about(6), 0);
        Check.sentence(23, "Of a halted MOVE only those SPEEDS are left");
        MicroSteps halted = Check.on(Check.ONE_AXIS);
        halted.go(1000, 0, 0);
        halted.run(6);
        halted.halt();
        Check.same("ticks", halted.about(7), 6);
        Check.same("35 less 10", halted.run(1), 25);
        Check.same("ticks", halted.about(7), 5);
        Check.same("all", halted.run(500), 0);
        Check.same("at 70", halted.now(0, 0), 70);
    }

    private static void promise24() {
        Check.sentence(24, "A MOVE more that waits: how many do");
        MicroSteps x = Check.on(Check.TWO_AXES);
        x.go(30000, 0, 0);
        for (int i = 1; i <= 8; i++) {
            Check.same("waits", x.queue(i % 2 == 0 ? 30000 : -30000, 30000 * (i % 3 - 1), i % 2 == 0 ? Check.LEAST : Check.MOST), i);
            Check.same("waits", x.about(10), i);
        }
        Check.sentence(24, "NONE, doing nothing, if none is on, one of x, y, z (of those that there are) can't be, or 8 wait");
        Check.doesNothing("8 wait", x, () -> x.queue(0, 0, 0), Check.NONE);
        x.undo();
        Check.same("the eighth", x.queue(0, 0, 0), 8);
        MicroSteps none = Check.on(Check.TWO_AXES);
        Check.doesNothing("none is on", none, () -> none.queue(5, 5, 5), Check.NONE);
        none.go(5, 0, 0);
        none.queue(0, 0, 0);
        none.run(5);
        Check.same("off, one waits", none.about(6) + 2 * none.about(10), 2);
        Check.doesNothing("none is on, one waits", none, () -> none.queue(5, 5, 5), Check.NONE);
        none.run(1);
        for (int far : new int[] {30001, -30001, Check.LEAST, Check.MOST}) {
            Check.doesNothing("x " + far, none, () -> none.queue(far, 0, 0), Check.NONE);
            Check.doesNothing("y " + far, none, () -> none.queue(0, far, 0), Check.NONE);
        }
        Check.same("z is none", none.queue(0, 0, 30001), 1);
        MicroSteps three = Check.on(Check.TWO_AXES + "axis z speed 1 gain 1 jerk 1;");
        three.go(5, 0, 0);
        Check.doesNothing("z 30,001", three, () -> three.queue(0, 0, 30001), Check.NONE);
        Check.doesNothing("z -30,001", three, () -> three.queue(0, 0, -30001), Check.NONE);
    }

    private static void promise24Begins() {
        Check.sentence(24, "MOVES may wait (8 at the most): one begins, from where AXES are then, in the first TICK in which none is on");
        MicroSteps x = Check.on(Check.SLOW);
        x.go(3, 0, 0);
        x.queue(5, 0, 0);
        x.queue(4, 0, 0);
        int[] places = {1, 2, 3, 4, 5, 4, 4};
        int[] waits = {2, 2, 2, 1, 1, 0, 0};
        int[] on = {1, 1, 0, 1, 0, 0, 0};
        int[] left = {2, 1, 0, 1, 0, 0, 0};
        for (int k = 0; k < places.length; k++) {
            Check.same("left", x.run(1), left[k]);
            Check.same("at", x.now(0, 0), places[k]);
            Check.same("wait", x.about(10), waits[k]);
            Check.same("on", x.about(6), on[k]);
        }
        // told ahead as from 0, it begins from where trueUp() put the AXIS
        MicroSteps told = Check.on(Check.WEAK);
        told.go(100, 0, 0);
        told.queue(2, 0, 0);
        told.run(15);
        Check.same("to 0", told.trueUp(), 1);
        Check.same("from 0 to 2", told.run(1), 1);
        Check.same("at 1", told.now(0, 0), 1);
        Check.sentence(24, "one by which nothing goes is left out");
        MicroSteps out = Check.on(Check.SLOW);
        out.go(1, 0, 0);
        for (int i = 0; i < 7; i++) {
            out.queue(1, i, -i);
        }
        out.queue(3, 0, 0);
        out.run(1);
        Check.same("eight wait", out.about(10), 8);
        Check.same("seven are left out, the eighth goes", out.run(1), 1);
        Check.same("none waits", out.about(10), 0);
        out.queue(3, 0, 0);
        out.run(1);
        Check.same("one waits", out.about(10), 1);
        Check.same("left out", out.run(1), 0);
        Check.same("none waits", out.about(10), 0);
        Check.same("off", out.about(6), 0);
        Check.same("ticks", out.about(5), 4);
    }

    private static void promise25() {
        Check.sentence(25, "LIMIT of an AXIS (0 .. 2,048): what it was");
        MicroSteps x = Check.on(Check.TWO_AXES);
        Check.same("0 at first", x.watch(1, 2048), 0);
        Check.same("2,048", x.watch(1, 1), 2048);
        Check.same("1", x.watch(1, 0), 1);
        Check.same("0", x.watch(0, 5), 0);
        Check.same("of another", x.axis(1, 7), 0);
        Check.sentence(25, "NONE, doing nothing, if one can't be, or it is that");
        for (int limit : new int[] {-1, 2049, Check.LEAST, Check.MOST}) {
            Check.doesNothing("limit " + limit, x, () -> x.watch(0, limit), Check.NONE);
        }
        for (int axis : new int[] {-1, 2, 3, Check.LEAST, Check.MOST}) {
            Check.doesNothing("axis " + axis, x, () -> x.watch(axis, 7), Check.NONE);
        }
        Check.doesNothing("5 is 5", x, () -> x.watch(0, 5), Check.NONE);
        Check.doesNothing("0 is 0", x, () -> x.watch(1, 0), Check.NONE);
    }

    /** In which TICK the move to a place is tripped, and where it ends. */
    private static void trips(int limit, int to, int tick, int end) {
        MicroSteps x = Check.on(Check.SLOW);
        x.watch(0, limit);
        x.go(to, 0, 0);
        x.queue(0, 0, 0);
        x.queue(1, 0, 0);
        for (int k = 0; k < Math.abs(end); k++) {
            x.run(1);
        }
        String name = "limit " + limit + " to " + to;
        Check.same(name + " tripped in", x.about(11), tick);
        Check.same(name + " by", x.about(12), tick == 0 ? Check.NONE : 0);
        Check.same(name + " at", x.now(0, 0), end);
        Check.same(name + " waits", x.about(10), tick == 0 ? 2 : 0);
        Check.same(name + " on", x.about(6), 0);
        Check.same(name + " left", x.about(7), 0);
    }

    private static void promise25Tripped() {
        Check.sentence(25, "LIMIT of an AXIS (0: none; at first)");
        trips(0, 200, 0, 200);
        trips(1, 200, 1, 1);
        Check.sentence(25, "TRIPPED is a MOVE in a TICK behind which it is on yet and ANGLE of an AXIS is its LIMIT or more, either way");
        trips(16, 5, 1, 1);
        trips(17, 5, 2, 2);
        trips(32, -5, 2, -2);
        trips(33, -5, 3, -3);
        trips(80, 5, 0, 5);
        trips(80, 6, 5, 5);
        trips(2048, 200, 128, 128);
        Check.sentence(25, "it ends there, and none waits any more");
        MicroSteps x = Check.on(Check.SLOW);
        x.watch(0, 32);
        x.go(50, 0, 0);
        x.queue(5, 0, 0);
        Check.same("tripped", x.run(9), 0);
        Check.same("at", x.now(0, 0), 2);
        Check.same("on", x.about(6), 0);
        Check.same("waits", x.about(10), 0);
        Check.same("in", x.about(11), 2);
        // of one that stays beside the MOVE, by a LOAD; and of a halted one
        MicroSteps beside = Check.on(Check.SLOW + "axis y speed 1 gain 1 jerk 1;motor y hold 1 mass 1 damp 0;");
        beside.load(1, 5);
        beside.watch(1, 16);
        beside.go(50, 0, 0);
        // ANGLE of y: 5, 15, 30
        beside.run(9);
        Check.same("in", beside.about(11), 3);
        Check.same("by y", beside.about(12), 1);
        MicroSteps halted = Check.on(Check.WEAK);
        halted.go(100, 0, 0);
        halted.run(6);
        halted.halt();
        halted.watch(0, 16 * 45);
        halted.queue(0, 0, 0);
        halted.run(1);
        Check.same("halted, tripped in", halted.about(11), 7);
        Check.same("at", halted.now(0, 0), 45);
        Check.same("waits", halted.about(10), 0);
        // a MOVE is not on: nothing is tripped
        MicroSteps off = Check.on(Check.WEAK);
        off.go(2, 0, 0);
        off.run(2);
        off.watch(0, 1);
        off.run(5);
        Check.same("none on", off.about(11), 0);
    }

    private static void promise26() {
        Check.sentence(26, "LOAD of an AXIS (-2,000 .. 2,000): what it was");
        MicroSteps x = Check.on(Check.TWO_AXES);
        Check.same("0 at first", x.load(1, 2000), 0);
        Check.same("2,000", x.load(1, -2000), 2000);
        Check.same("-2,000", x.load(1, -1), -2000);
        Check.same("-1", x.load(1, 0), -1);
        Check.same("0", x.load(0, 5), 0);
        Check.same("of another", x.axis(1, 6), 0);
        Check.sentence(26, "Integer.MIN_VALUE, doing nothing, if one can't be, or it is that");
        for (int v : new int[] {-2001, 2001, Check.LEAST, Check.MOST}) {
            Check.doesNothing("load " + v, x, () -> x.load(0, v), Check.CANT);
        }
        for (int axis : new int[] {-1, 2, 3, Check.LEAST, Check.MOST}) {
            Check.doesNothing("axis " + axis, x, () -> x.load(axis, 7), Check.CANT);
        }
        Check.doesNothing("5 is 5", x, () -> x.load(0, 5), Check.CANT);
        Check.doesNothing("0 is 0", x, () -> x.load(1, 0), Check.CANT);
    }

    private static void promise27() {
        Check.sentence(27, "(PLACE / 16, downwards; SWING stays, none is STALLED then)");
        int[][] due = {{-16, 1}, {-31, 1}, {-32, 2}, {1, -1}, {16, -1}, {17, -2}, {1024, -64}, {-1500, 93}};
        for (int[] row : due) {
            MicroSteps x = loaded("motor x hold 1 mass 1 damp 0;", row[0]);
            Check.same("one was elsewhere", x.trueUp(), 1);
            Check.now("load " + row[0], x, 0, row[1], -row[0], -row[0], 16 * row[1] + row[0], 0, 0);
        }
        Check.sentence(27, "how many were elsewhere (MOVES that wait stay)");
        MicroSteps x = Check.on(Check.WEAK + "axis y speed 60 gain 30 jerk 10;motor y hold 1 mass 1 damp 0;"
            + "axis z speed 1 gain 1 jerk 1;motor z hold 1 mass 1 damp 0;");
        x.load(1, 17);
        x.load(2, -15);
        x.go(5, 0, 0);
        x.queue(0, 0, 0);
        x.queue(9, 0, 0);
        x.run(1);
        x.load(1, 0);
        x.load(2, 30);
        x.run(1);
        x.load(2, 0);
        x.run(3);
        // x at 5, its ROTOR at 0; y at 0, its ROTOR at -85; z at 0, its ROTOR at -45
        Check.same("off", x.about(6), 0);
        Check.same("three", x.trueUp(), 3);
        Check.now("x", x, 0, 0, 0, 0, 0);
        Check.same("y", x.now(1, 0), -6);
        Check.same("z", x.now(2, 0), -3);
        Check.same("two wait", x.about(10), 2);
        MicroSteps stalled = loaded("motor x hold 1 mass 1 damp 0;", 1024);
        Check.same("stalled", stalled.now(0, 4), 1);
        stalled.load(0, -2000);
        stalled.run(1);
        stalled.load(0, 930);
        stalled.run(1);
        Check.now("at 0 again", stalled, 0, 0, 0, 47, 0, 1);
        Check.same("none elsewhere, but STALLED", stalled.trueUp(), 0);
        Check.now("not STALLED", stalled, 0, 0, 0, 47, 0, 0);
    }

    private static void promise27Cant() {
        Check.sentence(27, "NONE, doing nothing, if a MOVE is on, some would be below -30,000 or above 30,000, or none is elsewhere or STALLED");
        MicroSteps on = Check.on(Check.WEAK);
        Check.doesNothing("none is elsewhere", on, on::trueUp, Check.NONE);
        on.go(100, 0, 0);
        on.run(14);
        Check.doesNothing("a move is on", on, on::trueUp, Check.NONE);
        on.run(1);
        Check.same("off", on.trueUp(), 1);
        Check.doesNothing("none is elsewhere", on, on::trueUp, Check.NONE);
        MicroSteps near = loaded("motor x hold 1 mass 1 damp 0;", -15);
        Check.doesNothing("15 / 16 is 0", near, near::trueUp, Check.NONE);
        // 240 TICKS by 2,000: PLACE 480,000; then by what the LOAD leaves of 2,000
        farOut(-2000, 1985, 480015, 30000);
        farOut(-2000, 1984, 480016, Check.NONE);
        farOut(2000, -2000, -480000, -30000);
        farOut(2000, -1999, -480001, Check.NONE);
        MicroSteps two = Check.on(Check.LIGHT + "axis y speed 1 gain 1 jerk 1;motor y hold 1 mass 1 damp 0;");
        two.load(0, 16);
        two.load(1, -2000);
        two.run(1);
        two.load(0, 0);
        two.run(240);
        Check.doesNothing("one of both is too far", two, two::trueUp, Check.NONE);
    }

    private static void farOut(int load, int brake, int place, int due) {
        MicroSteps x = Check.on(Check.LIGHT);
        x.load(0, load);
        x.run(240);
        x.load(0, brake);
        x.run(1);
        Check.same("place", x.now(0, 1), place);
        if (due == Check.NONE) {
            Check.doesNothing("too far", x, x::trueUp, Check.NONE);
        } else {
            Check.same("just there", x.trueUp(), 1);
            Check.same("at", x.now(0, 0), due);
        }
    }

    private static void promise28() {
        Check.sentence(28, "UNDO: how many more can be; NONE if none can");
        MicroSteps x = Check.on(Check.ONE_AXIS);
        Check.doesNothing("none", x, x::undo, Check.NONE);
        x.load(0, 1);
        x.load(0, 2);
        Check.same("one more", x.undo(), 1);
        Check.same("no more", x.undo(), 0);
        Check.doesNothing("none", x, x::undo, Check.NONE);
        Check.sentence(28, "UNDO takes back the latest ACT that was not; 10 are kept, the oldest go");
        for (int acts = 9; acts <= 25; acts++) {
            MicroSteps many = Check.on(Check.ONE_AXIS);
            for (int i = 1; i <= acts; i++) {
                many.load(0, i);
                Check.same("kept", many.about(8), Math.min(10, i));
            }
            int kept = Math.min(10, acts);
            for (int i = 1; i <= kept; i++) {
                Check.same("more", many.undo(), kept - i);
                Check.same("load", many.axis(0, 6), acts - i);
            }
            Check.doesNothing("no more", many, many::undo, Check.NONE);
        }
        // what was taken back is gone: the next ACT stands behind the one ahead of it
        MicroSteps back = Check.on(Check.ONE_AXIS);
        back.load(0, 1);
        back.load(0, 2);
        back.undo();
        back.load(0, 3);
        Check.same("kept", back.about(8), 2);
        back.undo();
        Check.same("1", back.axis(0, 6), 1);
        back.undo();
        Check.same("0", back.axis(0, 6), 0);
    }

    /** The ACT can be taken back, and all is as it was ahead of it. */
    private static void actIsUndone(String name, MicroSteps x, Consumer<MicroSteps> act) {
        String ahead = Check.allOf(x).replaceFirst("^((\\S+ ){8})\\S+", "$1");
        int acts = x.about(8);
        act.accept(x);
        String done = Check.allOf(x);
        Check.same(name + " is one act", x.about(8), Math.min(10, acts + 1));
        Check.same(name + " undone", x.undo(), Math.min(9, acts));
        String behind = Check.allOf(x).replaceFirst("^((\\S+ ){8})\\S+", "$1");
        Check.holds(name + " undone: " + ahead + " is " + behind, ahead.equals(behind));
        act.accept(x);
        Check.holds(name + " done again", done.equals(Check.allOf(x)));
    }

    private static void promise28Acts() {
        Check.sentence(28, "ACTS: a MOVE begun, halted, a LOAD, a LIMIT changed, a MOVE that waits");
        MicroSteps x = Check.on(Check.TWO_AXES + "motor x hold 1 mass 40 damp 20;");
        actIsUndone("a move begun", x, m -> m.go(100, 50, 0));
        actIsUndone("a load", x, m -> m.load(0, 30));
        actIsUndone("a limit", x, m -> m.watch(1, 2000));
        actIsUndone("a move that waits", x, m -> m.queue(-5, 7, 0));
        actIsUndone("ticks", x, m -> m.run(3));
        actIsUndone("a move that waits", x, m -> m.queue(9, 9, 0));
        actIsUndone("halted", x, MicroSteps::halt);
        actIsUndone("ticks", x, m -> m.run(2));
        Check.sentence(28, "AXES told to be where ROTORS are, TICKS (all of one run())");
        actIsUndone("ticks to its end", x, m -> m.run(500));
        actIsUndone("another", x, m -> m.go(-300, 0, 0));
        actIsUndone("that waits", x, m -> m.queue(5, 5, 0));
        actIsUndone("ticks", x, m -> m.run(60));
        Check.holds("stalled", x.now(0, 4) > 0);
        actIsUndone("a limit", x, m -> m.watch(0, 1));
        actIsUndone("begun by ticks, tripped", x, m -> m.run(40));
        Check.holds("tripped", x.about(11) > 0);
        actIsUndone("told to be where rotors are", x, MicroSteps::trueUp);
        promise28Halt();
        Check.sentence(28, "What is asked ahead (of paths, ROTORS, COILS) does nothing");
        MicroSteps y = Check.on(Check.TWO_AXES);
        y.go(100, 50, 0);
        y.queue(3, 3, 3);
        y.load(1, 9);
        y.run(3);
        // at 9 and 5
        Check.doesNothing("path", y, () -> y.path(9, 9, 0, 2), 4);
        Check.doesNothing("pathAt", y, () -> y.pathAt(9, 9, 0, 0, 0), y.now(0, 0));
        Check.doesNothing("stamp", y, () -> y.stamp(40, 9, 0, 0, 1), 1000);
        Check.doesNothing("peak", y, () -> y.peak(40, 9, 0, 2), Check.NONE);
        Check.doesNothing("needed", y, () -> y.needed(0, 1, 1), 1);
        Check.doesNothing("most", y, () -> y.most(9, 9, 0, 2), Check.NONE);
        Check.doesNothing("drives", y, () -> y.drives(9, 9, 0, 0, 0, 2), Check.NONE);
        Check.doesNothing("quickest", y, () -> y.quickest(0, 1, 1), 1);
        Check.doesNothing("stallIn", y, () -> y.stallIn(0), y.stallIn(0));
        Check.doesNothing("calmIn", y, y::calmIn, y.calmIn());
        Check.doesNothing("carries", y, () -> y.carries(0, 9), y.carries(0, 9));
        Check.doesNothing("strain", y, () -> y.strain(0, 1000), y.strain(0, 1000));
        Check.doesNothing("swings", y, () -> y.swings(0, 64, 1), 1);
        Check.doesNothing("settles", y, () -> y.settles(0, 0), 0);
        Check.doesNothing("shake", y, () -> y.shake(0, 1, 1), 16);
        Check.doesNothing("worst", y, () -> y.worst(0, 1), 10);
        Check.doesNothing("unsafe", y, () -> y.unsafe(0, 1), 0);
        Check.doesNothing("coil", y, () -> y.coil(1000, 0, 1), 30);
        Check.doesNothing("ramp", y, () -> y.ramp(10, 2, 1, 0), 6);
    }

    /** What a halt looks at is taken back with the TICKS: the MOVE's speed, GAIN and JERK, and whether it is halted. */
    private static void promise28Halt() {
        MicroSteps x = Check.on("axis x speed 60 gain 20 jerk 10;axis y speed 30 gain 2 jerk 1;");
        x.go(60, 30, 0);
        x.queue(500, 30, 0);
        x.run(2);
        x.run(30);
        x.undo();
        // 2, 6 along the LEAD, by GAIN 4 and JERK 2, not by 20 and 10
        Check.same("halt from 6", x.halt(), 3);
        Check.same("left", x.run(1), 6);
        Check.same("at 14", x.now(0, 0), 14);
        x.undo();
        x.undo();
        Check.same("halt once more", x.halt(), 3);
        x.undo();
        x.run(1);
        Check.same("at 8 and 10 more", x.now(0, 0), 18);
        // GAIN 2 behind the TICKS that are taken back, 30 within them: from 19 by 1, 3, .. 17, 18, 19
        MicroSteps gains = Check.on("axis x speed 60 gain 30 jerk 1;axis y speed 60 gain 1 jerk 10;");
        gains.go(1000, 500, 0);
        gains.queue(0, 500, 0);
        gains.run(10);
        gains.run(100);
        gains.undo();
        Check.same("halt from 19", gains.halt(), 11);
    }

    private static void promise29() {
        Check.sentence(29, "0: SPEED, 1: GAIN, 2: JERK, 3: HOLD, 4: MASS, 5: DAMP, 6: LOAD, 7: LIMIT");
        MicroSteps x = Check.on("axis a speed 7 gain 6 jerk 5;axis b speed 60 gain 30 jerk 10;"
            + "motor b hold 9999 mass 999 damp 90;");
        x.load(1, -2000);
        x.watch(1, 2048);
        int[] a = {7, 6, 5, 1000, 40, 20, 0, 0};
        int[] b = {60, 30, 10, 9999, 999, 90, -2000, 2048};
        for (int what = 0; what < 8; what++) {
            Check.same("a " + what, x.axis(0, what), a[what]);
            Check.same("b " + what, x.axis(1, what), b[what]);
        }
        Check.sentence(29, "Integer.MIN_VALUE if there is none such, or for another what");
        for (int axis : new int[] {-1, 2, 3, Check.LEAST, Check.MOST}) {
            for (int what = -1; what <= 8; what++) {
                Check.same("axis " + axis, x.axis(axis, what), Check.CANT);
            }
        }
        for (int what : new int[] {-1, 8, Check.LEAST, Check.MOST}) {
            Check.same("what " + what, x.axis(0, what), Check.CANT);
        }
    }

    private static void promise30() {
        Check.sentence(30, "the TICK in which it STALLED first (from 1 on; 0: it did not)");
        Check.same("1,024 in the first", loaded("motor x hold 1 mass 1 damp 0;", 1024).now(0, 4), 1);
        Check.same("-1,024 in the first", loaded("motor x hold 1 mass 1 damp 0;", -1024).now(0, 4), 1);
        Check.same("1,023", loaded("motor x hold 1 mass 1 damp 0;", 1023).now(0, 4), 0);
        Check.same("-1,023", loaded("motor x hold 1 mass 1 damp 0;", -1023).now(0, 4), 0);
        Check.sentence(30, "STALLED is it from the first TICK on behind which ANGLE (anew) is 1,024 or more, either way");
        MicroSteps x = Check.on(Check.SLOW);
        x.go(64, 0, 0);
        x.queue(0, 0, 0);
        x.queue(-64, 0, 0);
        x.run(63);
        Check.now("1,008", x, 0, 63, 0, 0, 1008, 0);
        x.run(1);
        Check.now("1,024", x, 0, 64, 0, 0, 1024, 64);
        x.run(64);
        Check.now("back, STALLED yet", x, 0, 0, 0, 0, 0, 64);
        x.run(64);
        Check.now("the first TICK stays", x, 0, -64, 0, 0, -1024, 64);
        Check.same("not any more", x.trueUp(), 1);
        Check.same("0", x.now(0, 4), 0);
        x.go(64, 0, 0);
        x.run(64);
        Check.same("first since then", x.now(0, 4), 64 + 64 + 64 + 64);
        Check.sentence(30, "Integer.MIN_VALUE likewise");
        for (int axis : new int[] {-1, 1, 3, Check.LEAST, Check.MOST}) {
            for (int what = -1; what <= 6; what++) {
                Check.same("axis " + axis, x.now(axis, what), Check.CANT);
            }
        }
        for (int what : new int[] {-1, 6, 7, Check.LEAST, Check.MOST}) {
            Check.same("what " + what, x.now(0, what), Check.CANT);
        }
    }

    /** The ANGLE of a rotor driven out by one LOAD, then by another. */
    private static void slipped(int first, int then, int angle, int cycles) {
        MicroSteps x = loaded("motor x hold 1 mass 1 damp 0;", first);
        x.load(0, then);
        x.run(1);
        Check.same("angle", x.now(0, 3), angle);
        Check.same("slipped at " + angle, x.now(0, 5), cycles);
    }

    private static void promise30Slipped() {
        Check.sentence(30, "SLIPPED: (ANGLE + 2,048) / 4,096, downwards");
        slipped(2000, -1953, 2047, 0);
        slipped(2000, -1952, 2048, 1);
        slipped(-2000, 1952, -2048, 0);
        slipped(-2000, 1951, -2049, -1);
        MicroSteps far = Check.on(Check.SLOW);
        far.go(400, 0, 0);
        far.run(383);
        Check.same("6,128", far.now(0, 5), 1);
        far.run(1);
        Check.same("6,144", far.now(0, 5), 2);
        MicroSteps back = Check.on(Check.SLOW);
        back.go(-400, 0, 0);
        back.run(384);
        Check.same("-6,144", back.now(0, 5), -1);
        back.run(1);
        Check.same("-6,160", back.now(0, 5), -2);
    }

    private static void promise31() {
        Check.sentence(31, "How often a speed (1 .. 60) lies in BANDS of an AXIS");
        MicroSteps x = Check.on(Check.TWO_AXES + "band x 1 9;band x 9 60;band x 9 9;band y 60 60;");
        int[][] due = {{1, 1, 0}, {8, 1, 0}, {9, 3, 0}, {10, 1, 0}, {59, 1, 0}, {60, 1, 1}};
        for (int[] row : due) {
            Check.same("x " + row[0], x.bands(0, row[0]), row[1]);
            Check.same("y " + row[0], x.bands(1, row[0]), row[2]);
        }
        Check.sentence(31, "NONE if one can't be");
        for (int speed : new int[] {0, 61, -1, Check.LEAST, Check.MOST}) {
            Check.same("speed " + speed, x.bands(0, speed), Check.NONE);
        }
        for (int axis : new int[] {-1, 2, 3, Check.LEAST, Check.MOST}) {
            Check.same("axis " + axis, x.bands(axis, 5), Check.NONE);
        }
    }
}
