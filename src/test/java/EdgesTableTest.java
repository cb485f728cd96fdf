/** The edges that promises 6 to 10 name, one sentence of the document after the other. */
public final class EdgesTableTest {
    public static void main(String[] args) {
        promise6();
        promise7();
        promise8();
        promise9();
        promise10();
        Check.finish();
    }

    private static void promise6() {
        Check.sentence(6, "TABLE at q (0 .. 64) what 0: without, 1: with its CORRECTION");
        MicroSteps x = Check.on("fix 0 -200;fix 1 200;fix 63 -1;fix 64 1;");
        int[][] due = {{0, 0, -200}, {1, 24, 224}, {2, 49, 49}, {62, 998, 998}, {63, 999, 998}, {64, 1000, 1001}};
        for (int[] row : due) {
            Check.same("table " + row[0], x.table(row[0], 0), row[1]);
            Check.same("table with " + row[0], x.table(row[0], 1), row[2]);
        }
        Check.sentence(6, "Integer.MIN_VALUE for others");
        for (int q : new int[] {-1, 65, Check.LEAST, Check.MOST}) {
            Check.same("q " + q, x.table(q, 0), Check.CANT);
            Check.same("q " + q, x.table(q, 1), Check.CANT);
        }
        for (int what : new int[] {-1, 2, Check.LEAST, Check.MOST}) {
            Check.same("what " + what, x.table(0, what), Check.CANT);
            Check.same("what " + what, x.table(64, what), Check.CANT);
        }
        Check.sentence(6, "TABLE at q (0 .. 64): 4000 * a * (11,520 - a) / (165,888,000 - a * (11,520 - a)), a being 90 * q");
        for (int q = 0; q <= 64; q++) {
            long a = 90L * q;
            Check.same("table " + q, x.table(q, 0), 4000 * a * (11520 - a) / (165888000 - a * (11520 - a)));
        }
        Check.sentence(6, "what is divided is cut towards 0, but where told");
        // 4000 * 90 * 11430 / (165,888,000 - 1,028,700) is 24.96
        Check.same("cut", x.table(1, 0), 24);
    }

    private static void promise7() {
        MicroSteps x = Check.on("fix 0 7;fix 1 1;fix 63 -99;fix 64 20;");
        Check.sentence(7, "CURRENT of n MICROS (any) of a coil (0, 1)");
        // 63 begins a QUARTER's end: 900; 64: 1,020; 65 is 63 of the second
        int[] places = {0, 1, 63, 64, 65, 127, 128, 129, 191, 192, 193, 255, 256, 257, -1, -63, -64, -65, -255, -256};
        int[] due = {7, 25, 900, 1020, 900, 25, -7, -25, -900, -1020, -900, -25, 7, 25, -25, -900, -1020, -900, 25, 7};
        for (int i = 0; i < places.length; i++) {
            Check.same("coil 1 of " + places[i], x.current(places[i], 1), due[i]);
            Check.same("coil 0 of " + (places[i] - 64), x.current(places[i] - 64, 0), due[i]);
        }
        Check.same("MAX_VALUE: 255", x.current(Check.MOST, 1), -25);
        Check.same("MAX_VALUE: 255 + 64", x.current(Check.MOST, 0), 900);
        Check.same("MAX_VALUE - 63: 192", x.current(Check.MOST - 63, 1), -1020);
        Check.same("MAX_VALUE - 63: 256", x.current(Check.MOST - 63, 0), 7);
        Check.same("MIN_VALUE: 0", x.current(Check.LEAST, 1), 7);
        Check.same("MIN_VALUE: 64", x.current(Check.LEAST, 0), 1020);
        Check.same("MIN_VALUE + 255", x.current(Check.LEAST + 255, 1), -25);
        Check.sentence(7, "SINE of a number n of MICROS (any): in a CYCLE's first QUARTER TABLE at its rest, in the second TABLE at 64 less that");
        for (int rest = 0; rest < 64; rest++) {
            Check.same("first", x.current(rest, 1), x.table(rest, 1));
            Check.same("second", x.current(64 + rest, 1), x.table(64 - rest, 1));
            Check.same("first, coil 0", x.current(rest - 64, 0), x.table(rest, 1));
        }
        Check.sentence(7, "in the third and fourth the opposites of these");
        for (int rest = 0; rest < 64; rest++) {
            Check.same("third", x.current(128 + rest, 1), -x.table(rest, 1));
            Check.same("fourth", x.current(192 + rest, 1), -x.table(64 - rest, 1));
        }
        Check.sentence(7, "Integer.MIN_VALUE for another one");
        for (int coil : new int[] {-1, 2, Check.LEAST, Check.MOST}) {
            Check.same("coil " + coil, x.current(0, coil), Check.CANT);
        }
    }

    private static void promise8() {
        Check.sentence(8, "the square root (downwards) of both CURRENTS' squares together");
        // without: 1,000 at 0, 6 (148, 989: 1,000,025) and 58; 997 first at 21 (492, 868: 995,488)
        MicroSteps plain = new MicroSteps();
        Check.same("greatest", plain.field(1), 1000);
        Check.same("least", plain.field(0), 997);
        // 0 and 64: 800 alone
        MicroSteps low = Check.on("fix 64 -200;");
        Check.same("800 just", low.field(0), 800);
        Check.same("1,024 just", Check.on("fix 64 24;").field(1), 1024);
        // 1,200 and 200: 1,480,000 is 1,216.55 squared
        MicroSteps high = Check.on("fix 0 200;fix 64 200;");
        Check.same("1216", high.field(1), 1216);
        // 32: twice 905: 1,638,050 is 1,279.86 squared
        Check.same("1279", Check.on("fix 32 200;").field(1), 1279);
        Check.sentence(8, "Of all n of a QUARTER (0 .. 63)");
        Check.same("at 0 the least", low.field(2), 0);
        // 1 and 63 are a pair: 1 less 200 is -176, 63 less 200 is 799: 669,377 is 818.1 squared
        MicroSteps last = Check.on("fix 1 -200;fix 63 -200;");
        Check.same("818", last.field(0), 818);
        Check.same("at 1 first", last.field(2), 1);
        Check.sentence(8, "what 0: the least, 1: the greatest, 2: the first n with the least");
        Check.same("first of many", plain.field(2), 21);
        // 32: twice 505: 714
        MicroSteps middle = Check.on("fix 32 -200;");
        Check.same("714", middle.field(0), 714);
        Check.same("at 32", middle.field(2), 32);
        Check.same("greatest", middle.field(1), 1000);
        Check.sentence(8, "NONE for another what");
        for (int what : new int[] {-1, 3, Check.LEAST, Check.MOST}) {
            Check.same("field " + what, plain.field(what), Check.NONE);
        }
    }

    private static void promise9() {
        Check.sentence(9, "Which CORRECTION (-200 .. 200) at q (0 .. 64), all others as they are");
        // 5 with 792 at 59: 323 and 792 have 855 (731,593); 322 and 792 have 854 (730,948)
        Check.same("200 at the most", Check.on("fix 59 -200;").mend(5), 200);
        // 37 with 814 at 27: 587 and 814 have 1,003 (1,007,165); 588: 1,004 (1,008,340) less 16
        Check.same("-200 at the least", Check.on("fix 27 200;").mend(37), -200);
        Check.same("q 0", new MicroSteps().mend(0), 0);
        Check.same("q 64", new MicroSteps().mend(64), 0);
        Check.same("what it is does not count", Check.on("fix 64 -200;").mend(64), 0);
        // 1,000 and c, with 200 at 0: 979 has 999 (998,441), 980 has 1,000 (1,000,400), 981 has 1,001 (1,002,361)
        Check.same("q 64 goes with 0", Check.on("fix 0 200;").mend(64), -20);
        Check.sentence(9, "how far that root is off, of like ones the least size, then below 0 first");
        // 0 with 800: 198 has 824 (679,204), and so have 199, 200, and those below 0
        Check.same("least size, below 0", Check.on("fix 64 -200;").mend(0), -198);
        // 32 alone: both are it: 707 has 999 (999,698), 708 has 1,001 (1,002,528): 1 off both ways
        Check.same("least size", new MicroSteps().mend(32), 2);
        // 64 with 0: 1,000 and 1 have 1,000 up to 44 (1,001,936): 0 is the least size
        Check.same("0 of many", Check.on("fix 64 0;").mend(0), 0);
        // 1 with 1,000: 24 needs nothing
        Check.same("just so", Check.on("fix 63 1;").mend(1), 0);
        Check.sentence(9, "Integer.MIN_VALUE for another q");
        for (int q : new int[] {-1, 65, Check.LEAST, Check.MOST}) {
            Check.same("mend " + q, new MicroSteps().mend(q), Check.CANT);
        }
        MicroSteps x = Check.on("fix 64 -200;");
        Check.doesNothing("mend", x, () -> x.mend(0), -198);
    }

    private static void promise10() {
        Check.sentence(10, "Were all places 0 .. 64 given the CORRECTION of mend(), one by one from 0 on, each with those ahead of it given");
        // all from 1 to 32 but 6 are mended; those behind 32 find it done
        MicroSteps plain = new MicroSteps();
        Check.same("least", plain.tuned(0), 999);
        Check.same("greatest", plain.tuned(1), 1000);
        // 0 becomes -198 ahead of 64, which then goes by -19 from 1,000, not by 0
        Check.same("0 and 64 too", Check.on("fix 64 -200;").tuned(2), 33);
        // with 981 at 64 it is -195 at 0 (1,000,386; 194: 999,997), and 981 stays
        Check.same("0, not 64", Check.on("fix 64 -19;fix 0 -198;").tuned(2), 32);
        Check.sentence(10, "how many CORRECTIONS would be other ones than they are");
        Check.same("others", plain.tuned(2), 31);
        int[] mended = {0, 21, 15, 4, 1, 4, 0, 1, 3, 3, 4, 2, 3, 5, 4, 3, 2, 3, 2, 4, 4, 5, 4, 4, 3, 4, 4, 3, 4, 4, 4, 4, 2};
        StringBuilder lines = new StringBuilder();
        for (int q = 0; q < mended.length; q++) {
            lines.append("fix ").append(q).append(' ').append(mended[q]).append(';');
        }
        MicroSteps done = Check.on(lines.toString());
        Check.same("none is another", done.tuned(2), 0);
        Check.same("all but one", Check.on(lines + "fix 64 1;").tuned(2), 1);
        Check.same("told as 0 is none", Check.on("fix 0 0;fix 6 0;").tuned(2), 31);
        Check.same("others", Check.on("fix 1 21;").tuned(2), 30);
        Check.sentence(10, "what 0, 1: field() then");
        Check.same("least", done.tuned(0), done.field(0));
        Check.same("greatest", done.tuned(1), done.field(1));
        Check.same("least of one too far", Check.on("fix 64 -200;").tuned(0), 999);
        Check.same("greatest of one too far", Check.on("fix 64 200;").tuned(1), 1000);
        Check.sentence(10, "NONE for another what");
        for (int what : new int[] {-1, 3, Check.LEAST, Check.MOST}) {
            Check.same("tuned " + what, plain.tuned(what), Check.NONE);
        }
        Check.doesNothing("tuned", done, () -> done.tuned(2), 0);
    }
}
