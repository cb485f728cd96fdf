/** Promises 13 to 20: path, pathAt, stamp, peak, needed, most, drives, quickest. */
public final class PathTest {
    public static void main(String[] args) {
        alone();
        short1();
        rest();
        bands();
        several();
        fromWhereAxesAre();
        wrongMoves();
        stamps();
        peaks();
        needed();
        quickest();
        mostOfAll();
        drives();
        farthest();
        Check.finish();
    }

    private static void alone() {
        MicroSteps x = Check.on(Check.ONE_AXIS);
        Check.path("path", x, Check.to(100, 0, 0), 15, 0, 100, 10, 10, 6, 0);
        int[] places = {0, 1, 4, 9, 16, 25, 35, 45, 55, 65, 75, 84, 91, 96, 99, 100};
        for (int k = 0; k < places.length; k++) {
            Check.same("forth " + k, x.pathAt(100, 0, 0, 0, k), places[k]);
            Check.same("back " + k, x.pathAt(-100, 0, 0, 0, k), -places[k]);
        }
        Check.same("beyond", x.pathAt(100, 0, 0, 0, 16), Check.CANT);
        Check.same("below", x.pathAt(100, 0, 0, 0, -1), Check.CANT);
        Check.same("other places are free", x.path(100, 99999, -99999, 0), 15);
        Check.same("nothing done", x.now(0, 0), 0);
        Check.same("no act", x.about(8), 0);
    }

    private static void short1() {
        MicroSteps x = Check.on(Check.ONE_AXIS);
        Check.path("path", x, Check.to(1, 0, 0), 1, 0, 1, 10, 0, 0, 0);
        Check.path("path", x, Check.to(2, 0, 0), 2, 0, 2, 10, 1, 1, 0);
        Check.path("path", x, Check.to(3, 0, 0), 3, 0, 3, 10, 1, 1, 0);
        Check.path("path", x, Check.to(7, 0, 0), 5, 0, 7, 10, 2, 2, 0);
    }

    private static void rest() {
        MicroSteps x = Check.on(Check.ONE_AXIS);
        // twice 35, and 25 in 3 TICKS: 8, 8, 9
        Check.path("path", x, Check.to(95, 0, 0), 15, 0, 95, 10, 10, 6, 0);
        Check.same("behind 7", x.pathAt(95, 0, 0, 0, 7), 43);
        Check.same("behind 8", x.pathAt(95, 0, 0, 0, 8), 51);
        Check.same("behind 9", x.pathAt(95, 0, 0, 0, 9), 60);
        // no rest
        Check.path("path", x, Check.to(70, 0, 0), 12, 0, 70, 10, 10, 6, 0);
        // a jerk above the gain has no RAMP: one by one
        MicroSteps slow = Check.on("axis x speed 10 gain 2 jerk 3;");
        Check.path("path", slow, Check.to(30, 0, 0), 30, 0, 30, 10, 0, 0, 0);
    }

    private static void bands() {
        MicroSteps x = Check.on(Check.ONE_AXIS + "band x 8 10;band x 9 9;");
        // 7 is reached: 1, 3, 5, 6, 7 are 22; the rest of 56 in 8 TICKS
        Check.path("path", x, Check.to(100, 0, 0), 18, 0, 100, 10, 7, 5, 0);
        MicroSteps crossed = Check.on(Check.ONE_AXIS + "band x 5 5;band x 4 6;");
        // 1, 3, 5, 7, 9, 10: 5 is crossed twice
        Check.path("path", crossed, Check.to(100, 0, 0), 15, 0, 100, 10, 10, 6, 2);
        MicroSteps within = Check.on("axis x speed 3 gain 1 jerk 1;band x 2 2;");
        // 1, 2, 3 twice are 12; the rest of 8 in 3 TICKS: 2, 3, 3
        Check.path("path", within, Check.to(20, 0, 0), 9, 0, 20, 3, 3, 3, 3);
        // the rest of 2 in one TICK
        Check.path("path", within, Check.to(14, 0, 0), 7, 0, 14, 3, 3, 3, 3);
        MicroSteps first = Check.on(Check.ONE_AXIS + "band x 1 1;");
        Check.path("path", first, Check.to(100, 0, 0), 15, 0, 100, 10, 10, 6, 2);
        // 1, 3, 5, 7, 9, 10, then 8, 8, 9
        Check.path("path", Check.on(Check.ONE_AXIS + "band x 9 9;"), Check.to(95, 0, 0), 15, 0, 95, 10, 10, 6, 3);
        Check.path("path", Check.on(Check.ONE_AXIS + "band x 8 8;"), Check.to(95, 0, 0), 15, 0, 95, 10, 10, 6, 2);
        MicroSteps barred = Check.on("axis x speed 3 gain 1 jerk 1;band x 1 60;");
        Check.path("path", barred, Check.to(20, 0, 0), 20, 0, 20, 3, 0, 0, 20);
        MicroSteps others = Check.on(Check.TWO_AXES + "band y 1 60;");
        Check.path("path", others, Check.to(100, 0, 0), 15, 0, 100, 10, 10, 6, 0);
        Check.path("path", others, Check.to(100, 50, 0), 17, 0, 100, 8, 8, 5, 0);
    }

    private static void several() {
        MicroSteps x = Check.on(Check.TWO_AXES);
        Check.path("path", x, Check.to(100, 50, 0), 17, 0, 100, 8, 8, 5, 0);
        // 1, 3, 4 twice are 16; the rest of 34 in 9 TICKS
        Check.path("path", x, Check.to(50, 50, 0), 15, 0, 50, 4, 4, 3, 0);
        Check.path("path", x, Check.to(-50, 50, 0), 15, 0, 50, 4, 4, 3, 0);
        Check.path("path", x, Check.to(3, -50, 0), 15, 1, 50, 4, 4, 3, 0);
        // gain and jerk of the LEAD: the least of 2 and 6 * 100 / 30 ..
        MicroSteps gains = Check.on("axis x speed 60 gain 20 jerk 10;axis y speed 60 gain 5 jerk 2;");
        // 5 * 100 / 33 = 15, 2 * 100 / 33 = 6: the RAMP by 15, 6: 6, 18, 24 .. twice 24 is 48, 48 + 48 = 96
        Check.same("ramp by the least of both", x.ramp(24, 15, 6, 2), 48);
        Check.path("path", gains, Check.to(100, 33, 0), 7, 0, 100, 60, 24, 3, 0);
        // behind s of 100: (2 * s * 33 + 100) / 200
        int[] lead = {0, 6, 24, 48, 52, 76, 94, 100};
        int[] other = {0, 2, 8, 16, 17, 25, 31, 33};
        for (int k = 0; k < lead.length; k++) {
            Check.same("lead " + k, gains.pathAt(100, 33, 0, 0, k), lead[k]);
            Check.same("other " + k, gains.pathAt(100, 33, 0, 1, k), other[k]);
            Check.same("other back " + k, gains.pathAt(100, -33, 0, 1, k), -other[k]);
        }
    }

    private static void fromWhereAxesAre() {
        MicroSteps x = Check.on(Check.TWO_AXES);
        x.go(10, -5, 0);
        x.run(50);
        Check.same("nothing goes", x.path(10, -5, 0, 0), Check.NONE);
        Check.same("way", x.path(20, -5, 0, 2), 10);
        Check.same("lead", x.path(10, 0, 0, 1), 1);
        Check.same("begin", x.pathAt(20, -5, 0, 0, 0), 10);
        Check.same("one that stays", x.pathAt(20, -5, 0, 1, 6), -5);
        x.go(0, 0, 0);
        x.run(2);
        Check.same("asked within a move", x.path(50, -5, 0, 2), 50 - x.now(0, 0));
    }

    private static void wrongMoves() {
        MicroSteps x = Check.on(Check.TWO_AXES);
        int[][] wrong = {{30001, 0}, {-30001, 0}, {0, 30001}, {0, -30001}, {0, 0}};
        for (int[] to : wrong) {
            Check.same("path", x.path(to[0], to[1], 0, 0), Check.NONE);
            Check.same("pathAt", x.pathAt(to[0], to[1], 0, 0, 0), Check.CANT);
            Check.same("stamp", x.stamp(to[0], to[1], 0, 0, 1), Check.NONE);
            Check.same("peak", x.peak(to[0], to[1], 0, 0), Check.NONE);
            Check.same("most", x.most(to[0], to[1], 0, 0), Check.NONE);
            Check.same("drives", x.drives(to[0], to[1], 0, 0, 0, 0), Check.NONE);
        }
        for (int axis : new int[] {-1, 2, 3, Integer.MAX_VALUE, Integer.MIN_VALUE}) {
            Check.same("pathAt", x.pathAt(5, 5, 0, axis, 0), Check.CANT);
            Check.same("stamp", x.stamp(5, 5, 0, axis, 1), Check.NONE);
            Check.same("most", x.most(5, 5, 0, axis), Check.NONE);
            Check.same("drives", x.drives(5, 5, 0, axis, 0, 0), Check.NONE);
        }
        Check.same("path of another what", x.path(5, 5, 0, 7), Check.NONE);
        Check.same("path of another what", x.path(5, 5, 0, -1), Check.NONE);
        Check.same("peak of another what", x.peak(5, 5, 0, 2), Check.NONE);
        Check.same("peak of another what", x.peak(5, 5, 0, -1), Check.NONE);
        Check.same("drives of another what", x.drives(5, 5, 0, 0, 0, 2), Check.NONE);
        Check.same("drives of another what", x.drives(5, 5, 0, 0, 0, -1), Check.NONE);
        Check.same("drives of no mode", x.drives(5, 5, 0, 0, 9, 0), Check.NONE);
        Check.same("drives of no mode", x.drives(5, 5, 0, 0, -1, 0), Check.NONE);
    }

    private static void stamps() {
        MicroSteps x = Check.on(Check.TWO_AXES);
        // TICKS of 1, 3, 5 ..
        int[] due = {1000, 1333, 1666, 2000, 2200, 2400, 2600, 2800, 3000};
        for (int k = 1; k <= due.length; k++) {
            Check.same("stamp " + k, x.stamp(100, 0, 0, 0, k), due[k - 1]);
            Check.same("stamp back " + k, x.stamp(-100, 0, 0, 0, k), due[k - 1]);
        }
        Check.same("the last", x.stamp(100, 0, 0, 0, 100), 15000);
        Check.same("beyond", x.stamp(100, 0, 0, 0, 101), Check.NONE);
        Check.same("below", x.stamp(100, 0, 0, 0, 0), Check.NONE);
        Check.same("below", x.stamp(100, 0, 0, 0, Integer.MIN_VALUE), Check.NONE);
        Check.same("one that stays", x.stamp(100, 0, 0, 1, 1), Check.NONE);
        // y by 33 of 100: its 1st by (2 * s * 33 + 100) / 200 = 1: s = 2; its 2nd: s = 5; its 33rd: s = 99
        int[] leads = {2, 5, 8, 11};
        for (int k = 1; k <= leads.length; k++) {
            Check.same("other " + k, x.stamp(100, 33, 0, 1, k), x.stamp(100, 33, 0, 0, leads[k - 1]));
        }
        Check.same("the last", x.stamp(100, 33, 0, 1, 33), x.stamp(100, 33, 0, 0, 99));
        Check.same("beyond", x.stamp(100, 33, 0, 1, 34), Check.NONE);
        // y by 1 of 101: (2 * s + 101) / 202 = 1: s = 51; by 50 of 100: the first by s = 1, the second by s = 3
        Check.same("by 1", x.stamp(101, 1, 0, 1, 1), x.stamp(101, 1, 0, 0, 51));
        Check.same("half, 1st", x.stamp(100, 50, 0, 1, 1), x.stamp(100, 50, 0, 0, 1));
        Check.same("half, 2nd", x.stamp(100, 50, 0, 1, 2), x.stamp(100, 50, 0, 0, 3));
    }

    private static void peaks() {
        MicroSteps x = Check.on(Check.ONE_AXIS);
        Check.same("by gain", x.peak(100, 0, 0, 0), 2);
        Check.same("by jerk", x.peak(100, 0, 0, 1), 1);
        // 1, 3, 5, 7, 9, 10, 8, 8, 9, 10, ..
        Check.same("10 to 8", x.peak(95, 0, 0, 0), 2);
        Check.same("from +1 to -2", x.peak(95, 0, 0, 1), 3);
        Check.same("one tick", x.peak(1, 0, 0, 0), 1);
        Check.same("one tick: +1, -1", x.peak(1, 0, 0, 1), 2);
        MicroSteps fast = Check.on("axis x speed 60 gain 30 jerk 10;");
        // 10, 30, 50, 60, 60, 50, 30, 10
        Check.same("fast", fast.peak(300, 0, 0, 0), 20);
        Check.same("fast", fast.peak(300, 0, 0, 1), 10);
        // 10, 1, 10: the differences are 10, -9, 9, -10
        Check.same("up and down", fast.peak(21, 0, 0, 0), 10);
        Check.same("up and down", fast.peak(21, 0, 0, 1), 19);
    }

    private static void needed() {
        MicroSteps x = Check.on(Check.ONE_AXIS + "band x 9 10;band x 12 60;");
        // 11: 1, 3, 5, 7, 9, 10, 11 are 46, and 8 in one TICK
        Check.same("15 ticks", x.needed(0, 100, 15), 11);
        Check.same("14 ticks", x.needed(0, 100, 14), Check.NONE);
        // 8: 1, 3, 5, 7, 8 are 24, and 52 in 7 TICKS
        Check.same("17 ticks", x.needed(0, 100, 17), 8);
        Check.same("16 ticks", x.needed(0, 100, 16), 11);
        Check.same("100 ticks", x.needed(0, 100, 100), 1);
        // 12: 1, 3, 5, 7, 9, 11, 12 are 48, and 104 in 9 TICKS; 11 takes 24
        Check.same("beyond its own speed", Check.on(Check.ONE_AXIS).needed(0, 200, 23), 12);
        Check.same("its widest", x.needed(0, 30000, 60000), 1);
        Check.same("its least", x.needed(0, 1, 1), 1);
        // 60: 10, 30, 50, 60 are 150, and 2,700 in 45 TICKS; 59 reaches 50
        MicroSteps fast = Check.on("axis x speed 1 gain 30 jerk 10;");
        Check.same("60", fast.needed(0, 3000, 53), 60);
        Check.same("60", fast.quickest(0, 3000, 0), 60);
        Check.same("60", fast.quickest(0, 3000, 1), 53);
        // 1 can't be TOP, so it is 0: one by one
        MicroSteps from0 = Check.on(Check.ONE_AXIS + "band x 1 1;");
        Check.same("TOP 0", from0.needed(0, 5, 5), 1);
        Check.same("TOP 0", from0.needed(0, 3, 2), Check.NONE);
        Check.same("TOP 0", from0.quickest(0, 3, 1), 3);
        int[][] wrong = {{1, 1, 1}, {-1, 1, 1}, {0, 0, 1}, {0, 30001, 60000}, {0, 1, 0}, {0, 1, 60001}, {0, -5, 9}};
        for (int[] w : wrong) {
            Check.same("needed of what can't be", x.needed(w[0], w[1], w[2]), Check.NONE);
        }
    }

    private static void quickest() {
        MicroSteps x = Check.on(Check.ONE_AXIS + "band x 9 10;band x 12 60;");
        Check.same("speed", x.quickest(0, 100, 0), 11);
        Check.same("ticks", x.quickest(0, 100, 1), 15);
        // no other speed than 1 can be
        Check.same("a way of 2", x.quickest(0, 2, 0), 1);
        Check.same("a way of 2", x.quickest(0, 2, 1), 2);
        Check.same("widest", x.quickest(0, 30000, 0), 11);
        // 46 twice, and 29,908 by 11
        Check.same("widest", x.quickest(0, 30000, 1), 14 + 2719);
        int[][] wrong = {{1, 1, 0}, {-1, 1, 0}, {0, 0, 0}, {0, 30001, 0}, {0, 1, 2}, {0, 1, -1}};
        for (int[] w : wrong) {
            Check.same("quickest of what can't be", x.quickest(w[0], w[1], w[2]), Check.NONE);
        }
    }

    private static void mostOfAll() {
        MicroSteps x = Check.on("axis x speed 10 gain 2 jerk 1;axis y speed 60 gain 30 jerk 10;axis z speed 1 gain 1 jerk 1;");
        Check.same("lead", x.most(100, 0, 0, 0), 10);
        Check.same("back", x.most(-100, 0, 0, 0), 10);
        Check.same("one that stays", x.most(100, 0, 0, 1), 0);
        // half of 10, half of 9: 13 of 25 to 12 .. 18 of 35
        Check.same("half", x.most(100, 50, 0, 1), 5);
        Check.same("half back", x.most(100, -50, 0, 1), 5);
        Check.same("one", x.most(100, 1, 0, 1), 1);
        Check.same("slow ones rule", x.most(100, 100, 100, 1), 1);
    }

    private static void drives() {
        MicroSteps x = Check.on(Check.ONE_AXIS + "coil supply 300 loss 5;");
        // TICK 1 at 1: toward 24: 30, off by 6
        Check.same("one tick", x.drives(1, 0, 0, 0, 0, 0), 6);
        Check.same("one tick", x.drives(1, 0, 0, 0, 0, 1), 6);
        // at 1: toward 24: 30; at 2: toward 49: 59, off by 10; together 16
        Check.same("two ticks", x.drives(2, 0, 0, 0, 0, 0), 10);
        Check.same("two ticks", x.drives(2, 0, 0, 0, 0, 1), 16);
        Check.same("back is the same", x.drives(-2, 0, 0, 0, 0, 1), 16);
        MicroSteps fixed = Check.on(Check.ONE_AXIS + "fix 1 -200;");
        // toward 176 (without sign): 30
        Check.same("corrected", fixed.drives(1, 0, 0, 0, 0, 0), 146);
        String[] benches = {Check.ONE_AXIS, "axis x speed 60 gain 9 jerk 3;coil supply 900 loss 30;fix 9 -99;"};
        for (String bench : benches) {
            Model model = new Model();
            model.told = new Model.Parser(Check.bytesOf(bench)).parse();
            for (int m = 0; m <= 8; m++) {
                Check.same("drives, most, by " + m, Check.on(bench).drives(999, 0, 0, 0, m, 0), model.drives(999, 0, 0, 0, m, 0));
                Check.same("drives, all, by " + m, Check.on(bench).drives(999, 0, 0, 0, m, 1), model.drives(999, 0, 0, 0, m, 1));
            }
        }
    }

    private static void farthest() {
        MicroSteps x = Check.on("axis x speed 1 gain 1 jerk 1;axis y speed 60 gain 30 jerk 10;");
        Check.same("go", x.go(-30000, -30000, 0), 30000);
        for (int i = 0; i < 60; i++) {
            x.run(500);
        }
        Check.same("there", x.now(0, 0), -30000);
        Check.same("there", x.now(1, 0), -30000);
        Check.path("path", x, Check.to(30000, 30000, 0), 60000, 0, 60000, 1, 1, 1, 0);
        Check.same("the last micro", x.stamp(30000, 30000, 0, 1, 60000), 60000000);
        for (int k = 1; k <= 60000; k += 7) {
            Check.same("one a tick " + k, x.stamp(30000, 30000, 0, 0, k), 1000 * k);
        }
        Check.same("half way", x.pathAt(30000, 30000, 0, 1, 30000), 0);
        Check.same("most", x.most(30000, 29999, 0, 1), 1);
        Check.same("lead", x.path(-30000, 30000, 0, 1), 1);
        Check.same("way", x.path(-30000, 30000, 0, 2), 60000);
    }
}
