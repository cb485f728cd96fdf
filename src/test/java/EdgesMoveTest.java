/** The edges that promises 11 to 20 name, one sentence of the document after the other. */
public final class EdgesMoveTest {
    private static final String THREE = Check.TWO_AXES + "axis z speed 1 gain 1 jerk 1;";
    private static final String FAST = "axis x speed 60 gain 30 jerk 10;";
    /** No RAMP can begin by it: a MICRO a TICK. */
    private static final String BARE = "axis x speed 10 gain 2 jerk 3;";

    public static void main(String[] args) {
        promise11();
        promise11Ramp();
        promise12();
        promise13();
        promise13Move();
        promise13Top();
        promise13Rest();
        promise13Bands();
        promise14();
        promise15();
        promise15Far();
        promise16();
        promise17();
        promise18();
        promise19();
        promise20();
        Check.finish();
    }

    private static void promise11() {
        MicroSteps x = new MicroSteps();
        Check.sentence(11, "Of the RAMP to V (0 .. 60) by A (1 .. 30) and J (1 .. 10)");
        Check.ramp(0, 1, 1);
        Check.ramp(0, 30, 10);
        Check.ramp(1, 1, 1, 1);
        Check.ramp(60, 1, 1, Check.by(1, 60));
        Check.ramp(60, 30, 10, 10, 30, 50, 60);
        Check.ramp(60, 1, 10);
        Check.sentence(11, "what 0: how many TICKS, 1: the speed that it reaches, 2: MICROS together");
        Check.same("ticks", x.ramp(60, 30, 10, 0), 4);
        Check.same("speed", x.ramp(60, 30, 10, 1), 60);
        Check.same("micros", x.ramp(60, 30, 10, 2), 150);
        Check.sentence(11, "NONE if one can't be, or for another what");
        int[][] wrong = {{-1, 1, 1}, {61, 1, 1}, {1, 0, 1}, {1, 31, 1}, {1, 1, 0}, {1, 1, 11}, {Check.LEAST, 1, 1},
            {Check.MOST, 1, 1}, {1, Check.LEAST, 1}, {1, Check.MOST, 1}, {1, 1, Check.LEAST}, {1, 1, Check.MOST}, {1, -1, 1}, {1, 1, -1}};
        for (int[] w : wrong) {
            for (int what = 0; what < 3; what++) {
                Check.same("of " + w[0] + " " + w[1] + " " + w[2], x.ramp(w[0], w[1], w[2], what), Check.NONE);
            }
        }
        for (int what : new int[] {-1, 3, Check.LEAST, Check.MOST}) {
            Check.same("what " + what, x.ramp(10, 2, 1, what), Check.NONE);
        }
    }

    private static void promise11Ramp() {
        Check.sentence(11, "speed v and gain g are 0 at first; each TICK g becomes the greatest of g + J, g, g - J that is no more than A, above 0");
        Check.ramp(60, 10, 10, Check.by(10, 6));
        Check.ramp(60, 19, 10, Check.by(10, 6));
        Check.ramp(60, 20, 10, 10, 30, 50, 60);
        Check.ramp(60, 9, 10);
        Check.ramp(60, 3, 2, Check.by(2, 30));
        Check.ramp(12, 4, 2, 2, 6, 10, 12);
        Check.sentence(11, "by which v + g + (g - J) + (g - 2 J) .. (those above 0) is no more than V");
        Check.ramp(3, 2, 1, 1, 2, 3);
        Check.ramp(4, 2, 1, 1, 3, 4);
        Check.ramp(8, 3, 1, 1, 3, 5, 7, 8);
        Check.ramp(9, 3, 1, 1, 3, 6, 8, 9);
        Check.ramp(5, 30, 3, 3);
        Check.ramp(6, 30, 3, 3, 6);
        Check.ramp(11, 30, 3, 3, 6, 9);
        Check.ramp(12, 30, 3, 3, 9, 12);
        Check.sentence(11, "this till none is such");
        Check.ramp(2, 30, 3);
        Check.ramp(3, 30, 3, 3);
        Check.ramp(59, 30, 10, 10, 30, 40, 50);
        Check.sentence(11, "Its SPEEDS are v behind each of its TICKS");
        Check.ramp(10, 2, 1, 1, 3, 5, 7, 9, 10);
    }

    private static void promise12() {
        MicroSteps x = new MicroSteps();
        Check.sentence(12, "Its speed behind k TICKS (1 .. as many as it has)");
        Check.same("1", x.rampAt(10, 2, 1, 1), 1);
        Check.same("6", x.rampAt(10, 2, 1, 6), 10);
        Check.same("60", x.rampAt(60, 1, 1, 60), 60);
        Check.sentence(12, "NONE likewise");
        for (int k : new int[] {0, 7, -1, 61, Check.LEAST, Check.MOST}) {
            Check.same("k " + k, x.rampAt(10, 2, 1, k), Check.NONE);
        }
        Check.same("61 of 60", x.rampAt(60, 1, 1, 61), Check.NONE);
        Check.same("1 of none", x.rampAt(0, 1, 1, 1), Check.NONE);
        Check.same("1 of none", x.rampAt(60, 9, 10, 1), Check.NONE);
        int[][] wrong = {{-1, 1, 1}, {61, 1, 1}, {1, 0, 1}, {1, 31, 1}, {1, 1, 0}, {1, 1, 11}, {Check.MOST, Check.MOST, Check.MOST}};
        for (int[] w : wrong) {
            Check.same("of " + w[0] + " " + w[1] + " " + w[2], x.rampAt(w[0], w[1], w[2], 1), Check.NONE);
        }
    }

    private static void promise13() {
        Check.sentence(13, "to x, y, z (of those that there are; -30,000 .. 30,000)");
        MicroSteps one = Check.on(Check.ONE_AXIS);
        Check.same("30,000", one.path(30000, 0, 0, 2), 30000);
        Check.same("-30,000", one.path(-30000, 0, 0, 2), 30000);
        Check.same("others are free", one.path(5, Check.LEAST, Check.MOST, 2), 5);
        MicroSteps two = Check.on(Check.TWO_AXES);
        Check.same("30,000", two.path(0, 30000, 30001, 2), 30000);
        Check.same("-30,000", two.path(0, -30000, -30001, 2), 30000);
        MicroSteps three = Check.on(THREE);
        Check.same("30,000", three.path(0, 0, 30000, 2), 30000);
        Check.same("-30,000", three.path(0, 0, -30000, 2), 30000);
        Check.sentence(13, "NONE if one can't be, nothing goes, or for another what");
        for (int far : new int[] {30001, -30001, Check.LEAST, Check.MOST}) {
            for (int what = 0; what <= 6; what++) {
                Check.same("x " + far, one.path(far, 0, 0, what), Check.NONE);
                Check.same("y " + far, two.path(5, far, 0, what), Check.NONE);
                Check.same("z " + far, three.path(5, 5, far, what), Check.NONE);
                Check.same("nothing goes", one.path(0, far, far, what), Check.NONE);
            }
        }
        three.go(7, -3, 1);
        three.run(100);
        Check.same("nothing goes", three.path(7, -3, 1, 2), Check.NONE);
        Check.same("one goes", three.path(7, -3, 2, 2), 1);
        for (int what : new int[] {-1, 7, 8, Check.LEAST, Check.MOST}) {
            Check.same("what " + what, one.path(5, 0, 0, what), Check.NONE);
        }
    }

    private static void promise13Move() {
        MicroSteps x = Check.on(THREE);
        Check.sentence(13, "LEAD is the AXIS that goes farthest (of like ones the first), WAY how far that is");
        Check.path("all alike", x, Check.to(9, -9, 9), 9, 0, 9, 1);
        Check.path("two alike", x, Check.to(8, 9, -9), 9, 1, 9, 1);
        Check.path("the last", x, Check.to(-8, 8, 9), 9, 2, 9, 1);
        Check.path("one more", x, Check.to(10, 9, 0), 6, 0, 10, 4);
        Check.path("one less", x, Check.to(9, 10, 0), 6, 1, 10, 4);
        Check.sentence(13, "SPEED * WAY / d, GAIN * WAY / d, JERK * WAY / d (d without sign), of those that go, the least of each");
        Check.same("4 * 100 / 40", x.path(100, 40, 0, 3), 10);
        Check.same("4 * 100 / 41", x.path(100, -41, 0, 3), 9);
        Check.same("4 * 100 / 39", x.path(100, 39, 0, 3), 10);
        Check.same("4 * 100 / 100", x.path(-100, 100, 0, 3), 4);
        Check.same("1 * 100 / 11", x.path(100, 0, 11, 3), 9);
        Check.same("1 * 100 / 1", x.path(100, 0, 1, 3), 10);
        Check.same("z stays", x.path(100, 0, 0, 3), 10);
        // GAIN 1 * 90 / 46 = 1, 1 * 90 / 45 = 2: a RAMP of 1, 3, 5 .. or of 1, 2, 3 ..
        MicroSteps gains = Check.on("axis x speed 9 gain 2 jerk 1;axis y speed 60 gain 1 jerk 9;");
        Check.path("gain 2", gains, Check.to(90, 45, 0), gains.ramp(9, 2, 1, 0) * 2 + 3, 0, 90, 9, 9, 6);
        Check.path("gain 1", gains, Check.to(90, 46, 0), 18, 0, 90, 9, 9, 9);
        // JERK 1 * 90 / 46 = 1, 1 * 90 / 45 = 2: 1, 3, 5, 7, 8, 9 or 2, 4, 6, 8
        MicroSteps jerks = Check.on("axis x speed 9 gain 2 jerk 2;axis y speed 60 gain 30 jerk 1;");
        Check.path("jerk 2", jerks, Check.to(90, 45, 0), 8 + 7, 0, 90, 9, 8, 4);
        Check.path("jerk 1", jerks, Check.to(90, 46, 0), 12 + 3, 0, 90, 9, 9, 6);
        Check.sentence(13, "Behind s MICROS of the LEAD another AXIS is gone by (2 * s * d + WAY) / (2 * WAY)");
        // one by one along z: half way is gone, less is not
        MicroSteps z = Check.on(THREE);
        int[] ofThree = {0, 0, 1, 1};
        int[] ofTwo = {0, 1, 1};
        int[] twoOfFive = {0, 0, 1, 1, 2, 2};
        for (int k = 0; k <= 5; k++) {
            if (k <= 3) {
                Check.same("1 of 3 behind " + k, z.pathAt(1, 0, 3, 0, k), ofThree[k]);
                Check.same("-1 of 3 behind " + k, z.pathAt(-1, 0, 3, 0, k), -ofThree[k]);
            }
            if (k <= 2) {
                Check.same("1 of 2 behind " + k, z.pathAt(0, 1, 2, 1, k), ofTwo[k]);
                Check.same("-1 of -2 behind " + k, z.pathAt(0, -1, -2, 1, k), -ofTwo[k]);
            }
            Check.same("2 of 5 behind " + k, z.pathAt(2, 0, 5, 0, k), twoOfFive[k]);
            Check.same("0 of 5 behind " + k, z.pathAt(2, 0, 5, 1, k), 0);
        }
    }

    private static void promise13Top() {
        MicroSteps x = Check.on(Check.ONE_AXIS);
        Check.sentence(13, "the RAMP's SPEEDS together, twice, are no more than WAY");
        Check.path("twice 35", x, Check.to(70, 0, 0), 12, 0, 70, 10, 10, 6, 0);
        // 1, 3, 5, 7, 8, 9 are 33
        Check.path("one less", x, Check.to(69, 0, 0), 13, 0, 69, 10, 9, 6, 0);
        Check.path("twice 33", x, Check.to(66, 0, 0), 12, 0, 66, 10, 9, 6, 0);
        Check.path("twice 1", x, Check.to(2, 0, 0), 2, 0, 2, 10, 1, 1, 0);
        Check.path("once 1", x, Check.to(1, 0, 0), 1, 0, 1, 10, 0, 0, 0);
        Check.sentence(13, "TOP: the greatest V (0 .. that SPEED)");
        Check.path("10", x, Check.to(30000, 0, 0), 12 + 2993, 0, 30000, 10, 10, 6, 0);
        Check.path("1", Check.on("axis x speed 1 gain 1 jerk 1;"), Check.to(30, 0, 0), 30, 0, 30, 1, 1, 1, 0);
        Check.path("60", Check.on(FAST), Check.to(300, 0, 0), 8, 0, 300, 60, 60, 4, 0);
        Check.path("0", Check.on(BARE), Check.to(30, 0, 0), 30, 0, 30, 10, 0, 0, 0);
        Check.sentence(13, "of which the speed that it reaches lies in no BAND of the LEAD (0 lies in none)");
        Check.path("10 is barred", Check.on(Check.ONE_AXIS + "band x 10 10;"), Check.to(70, 0, 0), 12 + 1, 0, 70, 10, 9, 6, 0);
        Check.path("11 is barred", Check.on(Check.ONE_AXIS + "band x 11 60;"), Check.to(70, 0, 0), 12, 0, 70, 10, 10, 6, 0);
        Check.path("9 is crossed", Check.on(Check.ONE_AXIS + "band x 9 9;"), Check.to(70, 0, 0), 12, 0, 70, 10, 10, 6, 2);
        Check.path("all are barred", Check.on(Check.ONE_AXIS + "band x 1 60;"), Check.to(7, 0, 0), 7, 0, 7, 10, 0, 0, 7);
        Check.path("all but 1", Check.on(Check.ONE_AXIS + "band x 2 60;"), Check.to(7, 0, 0), 7, 0, 7, 10, 1, 1, 0);
        Check.path("of another", Check.on(Check.TWO_AXES + "band y 1 60;"), Check.to(70, 0, 0), 12, 0, 70, 10, 10, 6, 0);
        Check.path("of the lead", Check.on(Check.TWO_AXES + "band y 4 4;"), Check.to(0, 70, 0), 6 + 20, 1, 70, 4, 3, 3, 0);
    }

    private static void promise13Rest() {
        MicroSteps x = Check.on(Check.ONE_AXIS);
        Check.sentence(13, "n the least (0, if there is no rest) by which none has more than the speed that the RAMP reaches");
        Check.same("no rest", x.path(70, 0, 0, 0), 12);
        Check.same("1", x.path(71, 0, 0, 0), 13);
        Check.same("10", x.path(80, 0, 0, 0), 13);
        Check.same("11", x.path(81, 0, 0, 0), 14);
        Check.same("20", x.path(90, 0, 0, 0), 14);
        Check.same("21", x.path(91, 0, 0, 0), 15);
        Check.sentence(13, "(1 at least)");
        Check.path("one by one", Check.on(BARE), Check.to(7, 0, 0), 7, 0, 7, 10, 0, 0, 0);
        Check.sentence(13, "behind k of them rest * k / n is gone");
        // 11 in two: 5, 6; 21 in three: 7, 14; 25 in three: 8, 16
        Check.same("5 of 11", x.pathAt(81, 0, 0, 0, 7), 40);
        Check.same("11 of 11", x.pathAt(81, 0, 0, 0, 8), 46);
        Check.same("8 of 25", x.pathAt(95, 0, 0, 0, 7), 43);
        Check.same("16 of 25", x.pathAt(95, 0, 0, 0, 8), 51);
        Check.same("25 of 25", x.pathAt(95, 0, 0, 0, 9), 60);
        // 29,930 * 1,500 is above what an int holds: 29,929 in 2,993: 2,992 of them are 29,919
        Check.same("far", x.pathAt(29999, 0, 0, 0, 6 + 2992), 35 + 29919);
        Check.sentence(13, "then those of the RAMP, the last first");
        int[] end = {35, 45, 54, 61, 66, 69, 70};
        for (int k = 6; k <= 12; k++) {
            Check.same("behind " + k, x.pathAt(70, 0, 0, 0, k), end[k - 6]);
        }
    }

    private static void promise13Bands() {
        Check.sentence(13, "in how many TICKS of all its speed lies in a BAND of the LEAD");
        // 1, 3, 5, 7, 9, 10, 8, 8, 9, 10, 9, 7, 5, 3, 1
        int[][] due = {{1, 1, 2}, {2, 2, 0}, {1, 2, 2}, {3, 5, 4}, {8, 8, 2}, {9, 9, 3}, {8, 9, 5}, {1, 9, 13}};
        for (int[] row : due) {
            MicroSteps x = Check.on(Check.ONE_AXIS + "band x " + row[0] + " " + row[1] + ";");
            Check.same("of 95, " + row[0] + " to " + row[1], x.path(95, 0, 0, 6), row[2]);
            Check.same("back", x.path(-95, 0, 0, 6), row[2]);
        }
        // 1, 2, 3, 2, 3, 2, 1: the rest of one TICK counts too
        MicroSteps one = Check.on("axis x speed 3 gain 1 jerk 1;band x 2 2;");
        Check.same("a rest of one TICK", one.path(14, 0, 0, 6), 3);
        Check.same("no rest", one.path(12, 0, 0, 6), 2);
        MicroSteps twice = Check.on(Check.ONE_AXIS + "band x 8 9;band x 8 9;band x 9 9;");
        Check.same("in two bands counts once", twice.path(95, 0, 0, 6), 5);
        MicroSteps other = Check.on(Check.TWO_AXES + "band y 1 60;");
        Check.same("of another", other.path(95, 1, 0, 6), 0);
    }

    private static void promise14() {
        MicroSteps x = Check.on(Check.TWO_AXES);
        Check.sentence(14, "Where an AXIS is behind k TICKS (0 .. as many as there are) of it");
        Check.same("0", x.pathAt(70, 7, 0, 0, 0), 0);
        Check.same("12", x.pathAt(70, 7, 0, 0, 12), 70);
        Check.same("12", x.pathAt(70, 7, 0, 1, 12), 7);
        Check.sentence(14, "Integer.MIN_VALUE likewise, or if there is none such");
        for (int k : new int[] {-1, 13, Check.LEAST, Check.MOST}) {
            Check.same("k " + k, x.pathAt(70, 7, 0, 0, k), Check.CANT);
        }
        for (int axis : new int[] {-1, 2, 3, Check.LEAST, Check.MOST}) {
            Check.same("axis " + axis, x.pathAt(70, 7, 0, axis, 0), Check.CANT);
        }
        Check.same("nothing goes", x.pathAt(0, 0, 5, 0, 0), Check.CANT);
        for (int far : new int[] {30001, -30001, Check.LEAST, Check.MOST}) {
            Check.same("x " + far, x.pathAt(far, 7, 0, 0, 0), Check.CANT);
            Check.same("y " + far, x.pathAt(7, far, 0, 0, 0), Check.CANT);
        }
        x.go(70, 7, 0);
        x.run(12);
        Check.same("from there", x.pathAt(0, 7, 0, 0, 0), 70);
        Check.same("stays there", x.pathAt(0, 7, 0, 1, 12), 7);
    }

    private static void promise15() {
        MicroSteps x = Check.on(Check.TWO_AXES);
        Check.sentence(15, "When the k-th MICRO (1 ..) of an AXIS is due in it, counts from its begin on");
        Check.same("the first", x.stamp(70, 7, 0, 0, 1), 1000);
        Check.same("the last", x.stamp(70, 7, 0, 0, 70), 12000);
        Check.same("the first back", x.stamp(-70, 7, 0, 0, 1), 1000);
        Check.sentence(15, "of a TICK with w MICROS of the LEAD the j-th (1 .. w) is due at j * 1,000 / w");
        int[] due = {1000, 1333, 1666, 2000, 2200, 2400, 2600, 2800, 3000, 3142, 3285, 3428, 3571, 3714, 3857, 4000};
        for (int k = 1; k <= due.length; k++) {
            Check.same("micro " + k, x.stamp(70, 0, 0, 0, k), due[k - 1]);
        }
        // 10 in the first, 30 in the second
        MicroSteps fast = Check.on(FAST);
        int[][] early = {{1, 100}, {2, 200}, {9, 900}, {10, 1000}, {11, 1033}, {39, 1966}, {40, 2000}};
        for (int[] row : early) {
            Check.same("fast, micro " + row[0], fast.stamp(300, 0, 0, 0, row[0]), row[1]);
        }
        // the last TICKS: 5, 3, 1
        Check.same("first of 3", x.stamp(70, 0, 0, 0, 67), 10333);
        Check.same("last of 5", x.stamp(70, 0, 0, 0, 66), 10000);
        Check.sentence(15, "(of another AXIS than the LEAD: that of the LEAD by which it is gone so far)");
        // y by 7 of 70: (14 * s + 70) / 140: its 1st by s = 5, its 2nd by 15, its 7th by 65
        Check.same("its first", x.stamp(70, 7, 0, 1, 1), due[4]);
        Check.same("its second", x.stamp(70, -7, 0, 1, 2), due[14]);
        Check.same("its last", x.stamp(70, 7, 0, 1, 7), x.stamp(70, 7, 0, 0, 65));
        // one by one along z: 1 of 3 is gone by the second, 1 of 2 by the first, 2 of 5 by the second and the fourth
        MicroSteps z = Check.on(THREE);
        Check.same("1 of 3", z.stamp(1, 0, 3, 0, 1), 2000);
        Check.same("1 of 2", z.stamp(0, 1, 2, 1, 1), 1000);
        Check.same("2 of 5", z.stamp(-2, 0, 5, 0, 1), 2000);
        Check.same("2 of 5", z.stamp(-2, 0, 5, 0, 2), 4000);
        // as far as the LEAD: 1, 2, then 3 in two TICKS, 2, 1
        Check.same("alike", x.stamp(9, 9, 0, 1, 2), 1500);
        Check.same("alike", x.stamp(9, 9, 0, 1, 9), 6000);
        Check.sentence(15, "NONE likewise, or if there is none such");
        for (int k : new int[] {0, 71, -1, Check.LEAST, Check.MOST}) {
            Check.same("k " + k, x.stamp(70, 7, 0, 0, k), Check.NONE);
        }
        Check.same("8 of 7", x.stamp(70, 7, 0, 1, 8), Check.NONE);
        Check.same("0 of 7", x.stamp(70, 7, 0, 1, 0), Check.NONE);
        Check.same("1 of none", x.stamp(70, 0, 0, 1, 1), Check.NONE);
        Check.same("0 of none", x.stamp(70, 0, 0, 1, 0), Check.NONE);
        for (int axis : new int[] {-1, 2, 3, Check.LEAST, Check.MOST}) {
            Check.same("axis " + axis, x.stamp(70, 7, 0, axis, 1), Check.NONE);
        }
        Check.same("nothing goes", x.stamp(0, 0, 5, 0, 1), Check.NONE);
        for (int far : new int[] {30001, -30001, Check.LEAST, Check.MOST}) {
            Check.same("x " + far, x.stamp(far, 7, 0, 0, 1), Check.NONE);
            Check.same("y " + far, x.stamp(7, far, 0, 0, 1), Check.NONE);
        }
    }

    private static void promise15Far() {
        Check.sentence(15, "CLOCK: 1,000 counts a TICK");
        MicroSteps x = Check.on("axis x speed 1 gain 1 jerk 1;");
        x.go(-30000, 0, 0);
        for (int i = 0; i < 60; i++) {
            x.run(500);
        }
        Check.same("the longest way", x.path(30000, 0, 0, 0), 60000);
        Check.same("the last micro", x.stamp(30000, 0, 0, 0, 60000), 60000000);
        Check.same("beyond", x.stamp(30000, 0, 0, 0, 60001), Check.NONE);
        for (int k = 1; k <= 60000; k += 13) {
            Check.same("micro " + k, x.stamp(30000, 0, 0, 0, k), 1000 * k);
        }
    }

    private static void promise16() {
        Check.sentence(16, "Of its speeds, TICK by TICK, 0 ahead of the first and behind the last one");
        MicroSteps bare = Check.on(BARE);
        Check.same("1 alone: 1, -1", bare.peak(1, 0, 0, 0), 1);
        Check.same("1 alone: 1, -1", bare.peak(1, 0, 0, 1), 2);
        Check.same("1, 1: 1, 0, -1", bare.peak(2, 0, 0, 1), 1);
        Check.sentence(16, "by how much one is more or less than the one ahead at the most");
        MicroSteps fast = Check.on(FAST);
        // 10, 1, 10; 10, 30, 50, 60, 60 ..; 10, 20, 30, 30 ..; 10, 20, 30, 1, 30 ..; 10, 20, 1, 20, 10
        Check.same("10 up", fast.peak(21, 0, 0, 0), 10);
        Check.same("20 up", fast.peak(300, 0, 0, 0), 20);
        Check.same("10 up and down", fast.peak(120, 0, 0, 0), 10);
        Check.same("29 down", fast.peak(121, 0, 0, 0), 29);
        Check.same("19 down", fast.peak(61, 0, 0, 0), 19);
        Check.sentence(16, "by how much such a difference (above, below 0) is more or less than the one ahead (0 at first) at the most");
        // 10, 10: 10, 0, -10
        Check.same("10 at first", fast.peak(20, 0, 0, 1), 10);
        // 10, 20, 1, 20, 10: 10, 10, -19, 19, -10, -10: 38 from -19 to 19
        Check.same("-19 to 19", fast.peak(61, 0, 0, 1), 38);
        // 10, 1, 10: 10, -9, 9, -10: 19
        Check.same("10 to -9", fast.peak(21, 0, 0, 1), 19);
        Check.sentence(16, "NONE likewise, or for another what");
        for (int what : new int[] {-1, 2, Check.LEAST, Check.MOST}) {
            Check.same("what " + what, fast.peak(21, 0, 0, what), Check.NONE);
        }
        Check.same("nothing goes", fast.peak(0, 0, 0, 0), Check.NONE);
        for (int far : new int[] {30001, -30001, Check.LEAST, Check.MOST}) {
            Check.same("x " + far, fast.peak(far, 0, 0, 0), Check.NONE);
            Check.same("x " + far, fast.peak(far, 0, 0, 1), Check.NONE);
        }
    }

    private static void promise17() {
        MicroSteps x = Check.on("axis x speed 1 gain 30 jerk 10;axis y speed 60 gain 2 jerk 1;band y 9 60;");
        Check.sentence(17, "The least SPEED (1 .. 60) by which a MOVE of an AXIS alone (its GAIN, JERK, BANDS)");
        // 60: 10, 30, 50, 60 are 150; 300 just: 8 TICKS; 50: 10, 30, 40, 50 are 130, and 40 in one: 9
        Check.same("60", x.needed(0, 300, 8), 60);
        Check.same("50", x.needed(0, 300, 9), 50);
        // 8: 1, 3, 5, 7, 8 are 24 twice, 8 in one; 7: 1, 3, 5, 6, 7 are 22 twice, 12 in two
        Check.same("y: 8", x.needed(1, 56, 11), 8);
        Check.same("y: 7", x.needed(1, 56, 12), 7);
        // 10 would take 12 TICKS; 8 takes 10, and 22 in three
        Check.same("y: 8", x.needed(1, 70, 13), 8);
        Check.same("y: none above 8", x.needed(1, 70, 12), Check.NONE);
        Check.same("1", x.needed(0, 300, 300), 1);
        Check.sentence(17, "by a way (1 .. 30,000) takes so many TICKS (1 .. 60,000) at the most");
        Check.same("1 in 1", x.needed(0, 1, 1), 1);
        Check.same("30,000 in 60,000", x.needed(0, 30000, 60000), 1);
        Check.same("30,000 in 30,000", x.needed(0, 30000, 30000), 1);
        // 10: 10 twice, 29,980 by 10; less have no RAMP
        Check.same("30,000 in 29,999", x.needed(0, 30000, 29999), 10);
        Check.same("3,000 in 3,000 by 10", x.needed(0, 30000, 3000), 10);
        Check.same("2,999 is less", x.needed(0, 30000, 2999), 20);
        Check.sentence(17, "NONE if by none, or one can't be");
        Check.same("by none", x.needed(0, 300, 7), Check.NONE);
        Check.same("by none", x.needed(0, 2, 1), Check.NONE);
        int[][] wrong = {{-1, 1, 1}, {2, 1, 1}, {0, 0, 1}, {0, 30001, 60000}, {0, 1, 0}, {0, 1, 60001}, {0, -1, 1},
            {0, 1, -1}, {Check.LEAST, 1, 1}, {Check.MOST, 1, 1}, {0, Check.LEAST, 1}, {0, Check.MOST, 1}, {0, 1, Check.LEAST}, {0, 1, Check.MOST}};
        for (int[] w : wrong) {
            Check.same("of " + w[0] + " " + w[1] + " " + w[2], x.needed(w[0], w[1], w[2]), Check.NONE);
        }
    }

    private static void promise18() {
        MicroSteps x = Check.on(THREE);
        Check.sentence(18, "The most MICROS that an AXIS goes in a TICK of it");
        Check.same("lead", x.most(70, 0, 0, 0), 10);
        Check.same("back", x.most(-70, 0, 0, 0), 10);
        Check.same("stays", x.most(70, 0, 0, 1), 0);
        // y by 7 of 70: 10 in a TICK are 1
        Check.same("other", x.most(70, 7, 0, 1), 1);
        // y by 69 of 70 (speed 4): 4 in a TICK are 4 at the most
        Check.same("other", x.most(70, 69, 0, 1), 4);
        Check.same("1 of 1", x.most(0, 0, 1, 2), 1);
        Check.same("1, 1", x.most(2, 0, 0, 0), 1);
        // 1, 3, 4, then 1 in one TICK, 4, 3, 1
        Check.same("not of the rest alone", x.most(17, 0, 0, 0), 4);
        Check.sentence(18, "NONE likewise, or if there is no such AXIS");
        for (int axis : new int[] {-1, 3, Check.LEAST, Check.MOST}) {
            Check.same("axis " + axis, x.most(5, 5, 5, axis), Check.NONE);
        }
        Check.same("nothing goes", x.most(0, 0, 0, 0), Check.NONE);
        for (int far : new int[] {30001, -30001, Check.LEAST, Check.MOST}) {
            Check.same("x " + far, x.most(far, 0, 0, 0), Check.NONE);
            Check.same("z " + far, x.most(5, 0, far, 0), Check.NONE);
        }
    }

    private static void promise19() {
        MicroSteps x = Check.on(BARE + "coil supply 2000 loss 10;");
        Check.sentence(19, "A COIL by MODE m (0 .. 8; CURRENT 0 at first, its 8 TICKS from the first one of the MOVE on)");
        // toward 24, 49, 74, 99, 123, 148, 172, 196, 220: 200, 198, 197, 196, 195, 194, 193, 391, then 388 or 188
        Check.same("1", x.drives(1, 0, 0, 0, 0, 1), 176);
        Check.same("9, slowly", x.drives(9, 0, 0, 0, 0, 1), 1047);
        Check.same("9, fast in the ninth", x.drives(9, 0, 0, 0, 1, 1), 911);
        Check.same("8, slowly", x.drives(8, 0, 0, 0, 0, 1), 879);
        Check.same("8, by 1", x.drives(8, 0, 0, 0, 1, 1), 879);
        // 200, then 0 (202 less)
        Check.same("2, by 2", x.drives(2, 0, 0, 0, 2, 1), 176 + 49);
        Check.same("2, by 8", x.drives(2, 0, 0, 0, 8, 1), 176 + 49);
        Check.sentence(19, "a TICK behind each TICK of it, toward CURRENT (without sign) of coil 1 of where an AXIS is then");
        Check.same("back", x.drives(-9, 0, 0, 0, 1, 1), 911);
        MicroSteps fixed = Check.on(BARE + "fix 1 -100;");
        // toward 76, without sign: 30
        Check.same("corrected", fixed.drives(1, 0, 0, 0, 0, 1), 46);
        // y stays at 0: toward 0, nothing is off
        MicroSteps two = Check.on(Check.TWO_AXES);
        Check.same("one that stays", two.drives(9, 0, 0, 1, 0, 0), 0);
        Check.same("one that stays", two.drives(9, 0, 0, 1, 0, 1), 0);
        Check.sentence(19, "what 0: how far it is off at most, 1: all together");
        Check.same("195 in the eighth", x.drives(9, 0, 0, 0, 0, 0), 195);
        Check.same("176 in the first", x.drives(7, 0, 0, 0, 0, 0), 176);
        Check.sentence(19, "NONE likewise, if there is no such AXIS, m can't be, or for another what");
        for (int axis : new int[] {-1, 1, 3, Check.LEAST, Check.MOST}) {
            Check.same("axis " + axis, x.drives(9, 0, 0, axis, 0, 0), Check.NONE);
        }
        for (int m : new int[] {-1, 9, Check.LEAST, Check.MOST}) {
            Check.same("mode " + m, x.drives(9, 0, 0, 0, m, 0), Check.NONE);
        }
        for (int what : new int[] {-1, 2, Check.LEAST, Check.MOST}) {
            Check.same("what " + what, x.drives(9, 0, 0, 0, 0, what), Check.NONE);
        }
        Check.same("nothing goes", x.drives(0, 0, 0, 0, 0, 0), Check.NONE);
        for (int far : new int[] {30001, -30001, Check.LEAST, Check.MOST}) {
            Check.same("x " + far, x.drives(far, 0, 0, 0, 0, 0), Check.NONE);
        }
    }

    private static void promise20() {
        MicroSteps x = Check.on("axis x speed 1 gain 30 jerk 10;axis y speed 60 gain 2 jerk 1;band y 9 60;");
        Check.sentence(20, "The SPEED (1 .. 60) by which a MOVE of an AXIS alone (as needed()) by a way takes the fewest TICKS");
        Check.same("60", x.quickest(0, 300, 0), 60);
        Check.same("8", x.quickest(0, 300, 1), 8);
        Check.same("y: 8", x.quickest(1, 70, 0), 8);
        Check.same("y: 13", x.quickest(1, 70, 1), 13);
        Check.same("1", x.quickest(0, 1, 0), 1);
        Check.same("1", x.quickest(0, 1, 1), 1);
        // 150 twice, 29,700 by 60
        Check.same("30,000", x.quickest(0, 30000, 1), 8 + 495);
        Check.sentence(20, "of like ones the least, what 0: it, 1: how many");
        Check.same("no RAMP below 10", x.quickest(0, 19, 0), 1);
        Check.same("19", x.quickest(0, 19, 1), 19);
        Check.same("10 .. 60 alike", x.quickest(0, 20, 0), 10);
        Check.same("2", x.quickest(0, 20, 1), 2);
        Check.sentence(20, "NONE if one can't be, or for another what");
        int[][] wrong = {{-1, 1, 0}, {2, 1, 0}, {0, 0, 0}, {0, 30001, 0}, {0, 1, -1}, {0, 1, 2}, {0, -1, 0},
            {Check.LEAST, 1, 0}, {Check.MOST, 1, 0}, {0, Check.LEAST, 0}, {0, Check.MOST, 0}, {0, 1, Check.LEAST}, {0, 1, Check.MOST}};
        for (int[] w : wrong) {
            Check.same("of " + w[0] + " " + w[1] + " " + w[2], x.quickest(w[0], w[1], w[2]), Check.NONE);
        }
    }
}
