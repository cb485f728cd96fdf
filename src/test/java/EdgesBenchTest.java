/** The edges that promises 1 to 5 name, and those of the BENCH: one sentence of the document after the other. */
public final class EdgesBenchTest {
    private static final String AXIS = Check.ONE_AXIS;

    public static void main(String[] args) {
        promise1();
        promise2();
        promise3();
        promise4();
        promise4AllIsNew();
        promise4AllElseStays();
        promise4Tokens();
        promise4Axis();
        promise4Motor();
        promise4Band();
        promise4Fix();
        promise4Coil();
        promise4Faults();
        promise4TooMany();
        promise5();
        Check.finish();
    }

    private static void promise1() {
        Check.sentence(1, "No AXES.");
        MicroSteps x = new MicroSteps();
        Check.same("axes", x.about(0), 0);
        for (int a = 0; a < 3; a++) {
            int axis = a;
            Check.same("axis", x.axis(a, 0), Check.CANT);
            Check.same("now", x.now(a, 0), Check.CANT);
            Check.same("bands", x.bands(a, 1), Check.NONE);
            Check.same("pathAt", x.pathAt(1, 1, 1, a, 0), Check.CANT);
            Check.same("stamp", x.stamp(1, 1, 1, a, 1), Check.NONE);
            Check.same("needed", x.needed(a, 1, 1), Check.NONE);
            Check.same("most", x.most(1, 1, 1, a), Check.NONE);
            Check.same("drives", x.drives(1, 1, 1, a, 0, 0), Check.NONE);
            Check.same("quickest", x.quickest(a, 1, 0), Check.NONE);
            Check.doesNothing("watch", x, () -> x.watch(axis, 1), Check.NONE);
            Check.doesNothing("load", x, () -> x.load(axis, 1), Check.CANT);
            Check.same("stallIn", x.stallIn(a), Check.NONE);
            Check.same("carries", x.carries(a, 1), Check.NONE);
            Check.same("strain", x.strain(a, 1), Check.NONE);
            Check.same("swings", x.swings(a, 0, 1), Check.NONE);
            Check.same("settles", x.settles(a, 0), Check.NONE);
            Check.same("shake", x.shake(a, 0, 1), Check.NONE);
            Check.same("worst", x.worst(a, 1), Check.NONE);
            Check.same("unsafe", x.unsafe(a, 1), Check.NONE);
        }
        Check.same("path", x.path(1, 1, 1, 0), Check.NONE);
        Check.same("peak", x.peak(1, 1, 1, 0), Check.NONE);
        Check.doesNothing("go", x, () -> x.go(1, 1, 1), Check.NONE);
        Check.doesNothing("queue", x, () -> x.queue(1, 1, 1), Check.NONE);
        Check.doesNothing("halt", x, x::halt, Check.NONE);
        Check.doesNothing("run", x, () -> x.run(1), Check.NONE);
        Check.doesNothing("trueUp", x, x::trueUp, Check.NONE);
        Check.doesNothing("undo", x, x::undo, Check.NONE);
    }

    private static void promise2() {
        Check.sentence(2, "Twenty bytes come behind those on the TAPE, of each number the highest first");
        for (int place = 0; place < 40; place++) {
            MicroSteps x = new MicroSteps();
            int[] n = new int[10];
            for (int i = 0; i < 40; i++) {
                n[i / 4] |= (i == place ? 0xE9 : ' ') << (24 - 8 * (i % 4));
            }
            Check.same("feed", x.feed(n[0], n[1], n[2], n[3], n[4]), 20);
            Check.same("feed", x.feed(n[5], n[6], n[7], n[8], n[9]), 40);
            Check.same("no TOKEN", x.bench(), Check.NONE);
            Check.same("its place", x.fault(1), place);
        }
        Check.sentence(2, "how many there are");
        MicroSteps x = new MicroSteps();
        int blanks = 0x20202020;
        for (int i = 1; i <= 45; i++) {
            Check.same("feed " + i, x.feed(blanks, blanks, blanks, blanks, blanks), 20 * i);
            Check.same("bytes", x.about(9), 20 * i);
        }
        Check.sentence(2, "NONE, and nothing comes, if there would be more than 900");
        Check.doesNothing("the 46th", x, () -> x.feed(-1, -1, -1, -1, -1), Check.NONE);
        x.end(881);
        Check.doesNothing("901", x, () -> x.feed(-1, -1, -1, -1, -1), Check.NONE);
        Check.same("all are blanks", x.bench(), 0);
        for (int i = 0; i < 45; i++) {
            x.feed(blanks, blanks, blanks, blanks, blanks);
        }
        x.end(880);
        Check.same("900", x.feed(blanks, blanks, blanks, blanks, 0x2020203F), 900);
        Check.same("the last one came", x.bench(), Check.NONE);
        Check.same("its place", x.fault(1), 899);
    }

    private static void promise3() {
        Check.sentence(3, "The TAPE has its first n bytes: n");
        MicroSteps x = new MicroSteps();
        Check.same("0 of none", x.end(0), 0);
        Check.feed(x, AXIS + "??????????");
        Check.same("40 of 40", x.end(40), 40);
        Check.same("30 of 40", x.end(30), 30);
        Check.same("bytes", x.about(9), 30);
        x.feed(0x20202020, 0x20202020, 0x20202020, 0x20202020, 0x20202020);
        Check.same("what comes is behind them", x.about(9), 50);
        Check.same("the others are gone", x.bench(), 1);
        Check.feed(x, "?");
        Check.same("0 of 1", x.end(0), 0);
        Check.same("none", x.bench(), 0);
        Check.sentence(3, "NONE, doing nothing, if it has not so many, or n is below 0");
        Check.doesNothing("1 of none", x, () -> x.end(1), Check.NONE);
        Check.feed(x, "axis x speed 1 gain 1 jerk 1;");
        for (int n : new int[] {30, 900, 901, Integer.MAX_VALUE, -1, Integer.MIN_VALUE}) {
            Check.doesNothing("end of " + n, x, () -> x.end(n), Check.NONE);
        }
        Check.same("all are there yet", x.bench(), 1);
    }

    private static void promise4() {
        Check.sentence(4, "The TAPE (empty then, also at a FAULT) is the BENCH");
        MicroSteps x = new MicroSteps();
        Check.same("an empty one", x.bench(), 0);
        Check.same("a bench", Check.bench(x, AXIS), 1);
        Check.same("empty then", x.about(9), 0);
        Check.same("a fault", Check.bench(x, AXIS + "?"), Check.NONE);
        Check.same("empty then", x.about(9), 0);
        Check.same("empty: nothing is told", x.bench(), 0);
        Check.same("no axes", x.about(0), 0);
        Check.sentence(4, "how many AXES");
        Check.same("1", Check.bench(x, AXIS), 1);
        Check.same("2", Check.bench(x, Check.TWO_AXES), 2);
        Check.same("3", Check.bench(x, Check.TWO_AXES + "axis z speed 1 gain 1 jerk 1;"), 3);
        Check.same("0", Check.bench(x, "fix 1 1;"), 0);
        Check.sentence(4, "A BENCH is a text of at most 900 bytes: {line}");
        String blanks = " ".repeat(870);
        Check.fits("");
        Check.fits(blanks + AXIS);
        Check.fits(AXIS + blanks);
        Check.fits(blanks + "\n".repeat(30));
        Check.fault(blanks + " ".repeat(29) + ";", 2, 899);
        Check.fault(blanks + " ".repeat(26) + "axis", 2, 900);
        MicroSteps full = Check.on("coil supply 1 loss 1;" + fixes(65));
        Check.same("a line for each place of the table", full.about(2), 65);
    }

    private static String fixes(int n) {
        StringBuilder lines = new StringBuilder();
        for (int q = 0; q < n; q++) {
            lines.append("fix ").append(q).append(q % 2 == 0 ? " -" : " ").append(q + 1).append(';');
        }
        return lines.toString();
    }

    private static MicroSteps busy() {
        MicroSteps x = Check.on("axis a speed 9 gain 3 jerk 1;axis b speed 5 gain 1 jerk 1;band a 5 6;fix 3 4;"
            + "coil supply 20 loss 1;motor a hold 300 mass 1 damp 0;");
        x.watch(0, 100);
        x.watch(1, 2048);
        x.go(500, 20, 0);
        x.queue(1, 1, 1);
        x.run(30);
        x.load(0, 2000);
        x.load(1, -7);
        x.run(9);
        x.go(-9, -9, 0);
        x.queue(1, 1, 1);
        Check.holds("one was tripped", x.about(11) > 0 && x.about(12) == 0);
        Check.holds("one is on, one waits", x.about(6) == 1 && x.about(10) == 1 && x.about(7) > 0);
        Check.holds("stalled, swings", x.now(0, 4) > 0 && x.now(0, 2) != 0);
        return x;
    }

    private static void promise4AllIsNew() {
        MicroSteps x = busy();
        Check.same("a bench", Check.bench(x, Check.TWO_AXES), 2);
        Check.sentence(4, "all at 0, at rest, no MOVE");
        for (int a = 0; a < 2; a++) {
            Check.now("anew", x, a, 0, 0, 0, 0, 0, 0);
        }
        Check.same("no move", x.about(6), 0);
        Check.same("no ticks of one", x.about(7), 0);
        Check.same("none waits", x.about(10), 0);
        Check.sentence(4, "LOADS, LIMITS 0, TICKS 0, none was TRIPPED, no ACTS are kept");
        for (int a = 0; a < 2; a++) {
            Check.same("load", x.axis(a, 6), 0);
            Check.same("limit", x.axis(a, 7), 0);
        }
        Check.same("ticks", x.about(5), 0);
        Check.same("tripped in", x.about(11), 0);
        Check.same("tripped by", x.about(12), Check.NONE);
        Check.same("acts", x.about(8), 0);
        Check.doesNothing("undo", x, x::undo, Check.NONE);
        Check.same("at rest: it stays", x.calmIn(), 0);
        x.run(1);
        Check.now("stays", x, 0, 0, 0, 0, 0, 0, 0);
        // nothing of the old BENCH is left either
        Check.same("bands", x.about(1), 0);
        Check.same("corrections", x.about(2), 0);
        Check.same("table", x.table(3, 1), 74);
        for (int round = 0; round < 4; round++) {
            Check.same("all told again", Check.bench(x, AXIS + "motor x hold 2 mass 2 damp 2;band x 3 4;fix 0 7;fix 64 -7;"
                + "coil supply 7 loss 7;"), 1);
            Check.same("bands", x.about(1), 1);
            Check.same("corrections", x.about(2), 2);
            if (round > 1) {
                Check.same("nothing told", Check.bench(x, AXIS), 1);
                int[] due = {1, 0, 0, 300, 5};
                for (int what = 0; what < due.length; what++) {
                    Check.same("about " + what, x.about(what), due[what]);
                }
                Check.same("table", x.table(0, 1), 0);
                Check.same("table", x.table(64, 1), 1000);
                Check.same("hold", x.axis(0, 3), 1000);
                Check.same("bands", x.bands(0, 3), 0);
            }
        }
    }

    private static void promise4AllElseStays() {
        Check.sentence(4, "NONE: a FAULT (all else stays)");
        String spoilt = "axis q speed 1 gain 1 jerk 1;motor q hold 5 mass 5 damp 5;band q 1 60;fix 3 9;fix 4 9;"
            + "coil supply 7 loss 7;?";
        MicroSteps x = busy();
        MicroSteps twin = busy();
        Check.same("a fault", Check.bench(x, spoilt), Check.NONE);
        Check.same("a fault again", Check.bench(x, spoilt), Check.NONE);
        x.fault(0);
        Check.holds("all is as of one without it", faultless(x).equals(faultless(twin)));
        Check.same("the move goes on", x.run(2), twin.run(2));
        Check.holds("all is as of one without it", faultless(x).equals(faultless(twin)));
        for (int acts = twin.about(8); acts > 0; acts--) {
            Check.same("undo", x.undo(), twin.undo());
            Check.holds("all is as of one without it", faultless(x).equals(faultless(twin)));
        }
        Check.same("bands", x.bands(0, 5), 1);
        Check.same("bands", x.bands(0, 4), 0);
        Check.same("coil", x.coil(100, 0, 1), 2);
    }

    private static String faultless(MicroSteps x) {
        return Check.allOf(x).replaceFirst(x.fault(0) + " " + x.fault(1) + " \\|", "|");
    }

    private static void promise4Tokens() {
        Check.sentence(4, "words (a .. z, 6 at most)");
        Check.fits("axis azazaz speed 1 gain 1 jerk 1;");
        Check.fault("axis abcdefg speed 1 gain 1 jerk 1;", 1, 5);
        Check.fault("axis " + "a".repeat(800), 1, 5);
        Check.fault("axis `", 1, 5);
        Check.fault("axis {", 1, 5);
        Check.fault("axis A", 1, 5);
        Check.fault("axis Z", 1, 5);
        Check.fault("axis a` speed", 1, 6);
        Check.sentence(4, "numbers (1 to 5 digits)");
        Check.fits("axis x speed 00060 gain 9 jerk 01;");
        Check.fault("axis x speed 000060 gain 9 jerk 01;", 1, 13);
        Check.fault("axis x speed " + "1".repeat(800), 1, 13);
        Check.fault("axis x speed 99999 gain", 4, 13);
        Check.fault("axis x speed /", 1, 13);
        Check.fault("axis x speed :", 1, 13);
        Check.fault("axis x speed 1/", 1, 14);
        Check.sentence(4, "the signs - and ;");
        for (char sign : "!\"#$%&'()*+,./:<=>?@[\\]^_`{|}~".toCharArray()) {
            Check.fault(AXIS + sign, 1, 30);
        }
        Check.fault(AXIS + "-", 2, 30);
        Check.fault(AXIS + ";", 2, 30);
        Check.sentence(4, "Blanks (32, 10) part them or not");
        Check.fits("\n axis\nx speed1 gain1\n\n jerk1\n;fix 1-1;fix 2 - 1;fix 3- 1;fix 4 -1;");
        for (int other : new int[] {0, 9, 11, 12, 13, 31, 33, 127, 128, 138, 160, 255}) {
            Check.fault("axis" + (char) other + "x", 1, 4);
        }
        Check.fault("axis x sp eed 1", 2, 7);
        Check.fault("axis x speed 1 0 gain", 2, 15);
        Check.sentence(4, "each is as long as can be");
        Check.fault("axisx speed 1", 2, 0);
        Check.fault("axis xspeed 1", 2, 12);
        Check.fault("axis x speeds 1", 2, 7);
        Check.fault("axis x speed 100 gain", 4, 13);
        Check.fault("axis x spee 1", 2, 7);
        Check.sentence(4, "no letter directly behind a digit");
        Check.fault("axis x speed 1gain 1", 1, 13);
        Check.fault("axis x speed 99z", 1, 13);
        Check.fault("axis x speed 1 gain 1a", 1, 20);
        Check.fits("axis x speed1 gain2 jerk3;");
        Check.sentence(4, "NAMES: words but axis, motor, band, fix, coil, speed, gain, jerk, hold, mass, damp, supply, loss");
        for (String word : Model.WORDS) {
            Check.fault("axis " + word + " speed 1 gain 1 jerk 1;", 2, 5);
            Check.fault(AXIS + "motor " + word, 2, 36);
            Check.fault(AXIS + "band " + word, 2, 35);
            String part = word.substring(1);
            Check.fits("axis " + part + " speed 1 gain 1 jerk 1;motor " + part + " hold 1 mass 1 damp 1;");
        }
    }

    private static void promise4Axis() {
        Check.sentence(4, "axis: an AXIS, 3 at most, numbered as told");
        String three = "axis c speed 3 gain 1 jerk 1;axis a speed 1 gain 1 jerk 1;axis b speed 2 gain 1 jerk 1;";
        MicroSteps x = Check.on(three);
        Check.same("axes", x.about(0), 3);
        Check.same("c", x.axis(0, 0), 3);
        Check.same("a", x.axis(1, 0), 1);
        Check.same("b", x.axis(2, 0), 2);
        Check.same("no more", x.axis(3, 0), Check.CANT);
        Check.fault(three + "axis d speed 1 gain 1 jerk 1;", 5, 87);
        Check.sentence(4, "SPEED 1 .. 60, GAIN 1 .. 30, JERK 1 .. 10");
        edges("axis x speed ", " gain 1 jerk 1;", 1, 60);
        edges("axis x speed 1 gain ", " jerk 1;", 1, 30);
        edges("axis x speed 1 gain 1 jerk ", ";", 1, 10);
        MicroSteps most = Check.on("axis x speed 60 gain 30 jerk 10;axis y speed 1 gain 1 jerk 1;");
        int[] told = {60, 30, 10};
        for (int what = 0; what < 3; what++) {
            Check.same("the most", most.axis(0, what), told[what]);
            Check.same("the least", most.axis(1, what), 1);
        }
    }

    /** The numbers at both ends can be, those beyond them can't; the number's place is where the text ahead ends. */
    private static void edges(String ahead, String behind, int least, int most) {
        Check.fits(ahead + least + behind);
        Check.fits(ahead + most + behind);
        if (least > 0) {
            Check.fault(ahead + (least - 1) + behind, 4, ahead.length());
        }
        Check.fault(ahead + (most + 1) + behind, 4, ahead.length());
        Check.fault(ahead + 99999 + behind, 4, ahead.length());
        Check.fault(ahead + "-1" + behind, 2, ahead.length());
        if (!Character.isDigit(behind.trim().charAt(0))) {
            Check.fault(ahead + behind, 2, ahead.length() + (behind.startsWith(" ") ? 1 : 0));
        }
    }

    private static void promise4Motor() {
        Check.sentence(4, "motor: of an AXIS (told ahead), once each");
        String two = "axis a speed 1 gain 1 jerk 1;axis b speed 1 gain 1 jerk 1;";
        Check.fits(two + "motor b hold 1 mass 1 damp 1;motor a hold 1 mass 1 damp 1;");
        Check.fault("motor a hold 1 mass 1 damp 1;" + two, 3, 6);
        Check.fault(two + "motor b hold 1 mass 1 damp 1;motor a hold 1 mass 1 damp 1;motor b", 5, 122);
        Check.sentence(4, "HOLD 1 .. 9,999, MASS 1 .. 999, DAMP 0 .. 90");
        edges(AXIS + "motor x hold ", " mass 1 damp 1;", 1, 9999);
        edges(AXIS + "motor x hold 1 mass ", " damp 1;", 1, 999);
        edges(AXIS + "motor x hold 1 mass 1 damp ", ";", 0, 90);
        MicroSteps x = Check.on(two + "motor b hold 9999 mass 999 damp 90;motor a hold 1 mass 1 damp 0;");
        int[] most = {9999, 999, 90};
        int[] least = {1, 1, 0};
        for (int what = 3; what <= 5; what++) {
            Check.same("the most", x.axis(1, what), most[what - 3]);
            Check.same("the least", x.axis(0, what), least[what - 3]);
        }
        Check.sentence(4, "(without: 1,000, 40, 20)");
        MicroSteps without = Check.on(two + "motor a hold 7 mass 7 damp 7;");
        Check.same("hold", without.axis(1, 3), 1000);
        Check.same("mass", without.axis(1, 4), 40);
        Check.same("damp", without.axis(1, 5), 20);
    }

    private static void promise4Band() {
        Check.sentence(4, "band: SPEEDS of an AXIS, from, to (1 .. 60, to no less than from), 6 at most");
        edges(AXIS + "band x ", " 60;", 1, 60);
        edges(AXIS + "band x 1 ", ";", 1, 60);
        edges(AXIS + "band x 33 ", ";", 33, 60);
        Check.fault("band x 1 1;" + AXIS, 3, 5);
        MicroSteps x = Check.on(Check.TWO_AXES + "band x 60 60;band y 1 1;");
        Check.same("60 of x", x.bands(0, 60), 1);
        Check.same("59 of x", x.bands(0, 59), 0);
        Check.same("1 of y", x.bands(1, 1), 1);
        Check.same("2 of y", x.bands(1, 2), 0);
        Check.same("1 of x", x.bands(0, 1), 0);
        String six = Check.TWO_AXES + "band x 1 1;band y 1 1;band x 1 1;band y 1 1;band x 1 1;band y 1 1;";
        Check.same("six", Check.on(six).about(1), 6);
        Check.same("three of each", Check.on(six).bands(1, 1), 3);
        Check.fault(six + "band x 1 1;", 5, six.length());
    }

    private static void promise4Fix() {
        Check.sentence(4, "fix: CORRECTION (-200 .. 200) of a place of the TABLE (0 .. 64), once each");
        edges("fix ", " 1;", 0, 64);
        edges("fix 3 - ", ";", 0, 200);
        Check.fits("fix 3 0;");
        Check.fits("fix 3 200;");
        Check.fault("fix 3 201;", 4, 6);
        Check.fault("fix 3 99999;", 4, 6);
        Check.fault("fix 3;", 2, 5);
        MicroSteps x = Check.on("fix 0 -200;fix 64 200;fix 32 -0;");
        Check.same("-200", x.table(0, 1), -200);
        Check.same("200", x.table(64, 1), 1200);
        Check.same("-0", x.table(32, 1), 705);
        Check.same("three", x.about(2), 3);
        Check.fault("fix 0 1;fix 0 1;", 5, 12);
        Check.fault("fix 64 1;fix 064 1;", 5, 13);
        Check.fault("fix 5 0;fix 5 0;", 5, 12);
    }

    private static void promise4Coil() {
        Check.sentence(4, "coil: once: SUPPLY 1 .. 2,000, LOSS 1 .. 99 (without: 300, 5)");
        edges("coil supply ", " loss 1;", 1, 2000);
        edges("coil supply 1 loss ", ";", 1, 99);
        MicroSteps x = Check.on("coil supply 2000 loss 99;");
        Check.same("supply", x.about(3), 2000);
        Check.same("loss", x.about(4), 99);
        Check.fault("coil supply 1 loss 1;coil supply 1 loss 1;", 5, 21);
        Check.same("a bench without", Check.bench(x, AXIS), 1);
        Check.same("supply", x.about(3), 300);
        Check.same("loss", x.about(4), 5);
    }

    private static void promise4Faults() {
        Check.sentence(4, "FAULTS, the first by its place (bytes from 0; the end: the text's length), at one place the least");
        Check.fault("?", 1, 0);
        Check.fault("axis", 2, 4);
        Check.fault("axis \n ", 2, 7);
        Check.fault("axis x", 2, 6);
        Check.fault("axis x speed", 2, 12);
        Check.fault("axis x speed 1 gain 1 jerk 1", 2, 28);
        Check.fault("axis x speed 0 ?", 4, 13);
        Check.fault("axis x speed ? 0", 1, 13);
        Check.fault(AXIS + "axis x ?", 3, 35);
        Check.fault(AXIS + "axis ? x", 1, 35);
        Check.sentence(4, "1 no TOKEN");
        Check.fault("axis ?", 1, 5);
        Check.fault("?axis", 1, 0);
        Check.fault("axis x speed 1 gain 1 jerk 1?", 1, 28);
        Check.fault("fix 3 ?", 1, 6);
        Check.fault("fix 3 - ?", 1, 8);
        Check.sentence(4, "2 one that can't stand there");
        String[] ahead = {"", "axis ", "axis x ", "axis x speed ", "axis x speed 1 ", "axis x speed 1 gain ",
            "axis x speed 1 gain 1 ", "axis x speed 1 gain 1 jerk ", "axis x speed 1 gain 1 jerk 1 ",
            AXIS + "motor ", AXIS + "motor x ", AXIS + "motor x hold ", AXIS + "motor x hold 1 ",
            AXIS + "motor x hold 1 mass ", AXIS + "motor x hold 1 mass 1 ", AXIS + "motor x hold 1 mass 1 damp ",
            AXIS + "motor x hold 1 mass 1 damp 1 ", AXIS + "band ", AXIS + "band x ", AXIS + "band x 1 ",
            AXIS + "band x 1 1 ", "fix ", "fix 1 ", "fix 1 -", "fix 1 1 ", "coil ", "coil supply ", "coil supply 1 ",
            "coil supply 1 loss ", "coil supply 1 loss 1 "};
        for (String text : ahead) {
            cantStandBehind(text);
        }
        Check.sentence(4, "3 a NAME told already (axis), of no AXIS (a word of the language where a NAME must stand is 2)");
        Check.fault(AXIS + "axis x speed 1 gain 1 jerk 1;", 3, 35);
        Check.fault(Check.TWO_AXES + "axis y", 3, 64);
        Check.fits(AXIS + "axis xx speed 1 gain 1 jerk 1;");
        Check.fault(AXIS + "motor xx", 3, 36);
        Check.fault(AXIS + "band y", 3, 35);
        Check.fault("axis jerk", 2, 5);
        Check.fault(AXIS + "motor jerk", 2, 36);
        Check.fault(AXIS + "band jerk", 2, 35);
        Check.sentence(4, "4 a number that can't be (of CORRECTION at its first digit)");
        Check.fault("fix 1 -201;", 4, 7);
        Check.fault("fix 1 - \n 00201;", 4, 10);
        Check.fault("fix 1 201;", 4, 6);
    }

    /** Of six kinds of TOKENS, and the end, those that can't stand there are told so, at their place. */
    private static void cantStandBehind(String text) {
        boolean number = text.endsWith("speed ") || text.endsWith("gain ") || text.endsWith("jerk ")
            || text.endsWith("hold ") || text.endsWith("mass ") || text.endsWith("damp ") || text.endsWith("band x ")
            || text.endsWith("band x 1 ") || text.endsWith("fix ") || text.endsWith("fix 1 ") || text.endsWith("fix 1 -")
            || text.endsWith("supply ") || text.endsWith("loss ");
        boolean name = text.equals("axis ") || text.endsWith("motor ") || text.endsWith("band ");
        boolean stop = text.endsWith("jerk 1 ") || text.endsWith("damp 1 ") || text.endsWith("band x 1 1 ")
            || text.endsWith("fix 1 1 ") || text.endsWith("loss 1 ");
        Check.fault(text + "axis ", 2, text.length() + (text.isEmpty() ? 5 : 0));
        if (!name) {
            Check.fault(text + "other ", 2, text.length());
        }
        if (!number) {
            Check.fault(text + "1 ", 2, text.length());
        }
        if (!stop) {
            Check.fault(text + "; ", 2, text.length());
        }
        if (!text.equals("fix 1 ")) {
            Check.fault(text + "- ", 2, text.length());
        }
        if (!text.isEmpty()) {
            Check.fault(text, 2, text.length());
        }
    }

    private static void promise4TooMany() {
        Check.sentence(4, "5 one too many (at the line's word; of motor, fix at what is told the second time, at that)");
        String three = "axis a speed 1 gain 1 jerk 1;axis b speed 1 gain 1 jerk 1;axis c speed 1 gain 1 jerk 1;";
        Check.fits(three);
        Check.fault(three + " axis", 5, 88);
        Check.fault(three + "axis a", 5, 87);
        Check.fault(three + "axis ?", 5, 87);
        String six = AXIS + "band x 1 1;band x 1 2;band x 1 3;band x 1 4;band x 1 5;band x 1 6;";
        Check.fits(six);
        Check.fault(six + "\nband", 5, 97);
        Check.fault(six + "band y", 5, 96);
        Check.fault("coil supply 1 loss 1; coil", 5, 22);
        String motor = AXIS + "motor x hold 1 mass 1 damp 1;";
        Check.fault(motor + "motor  x", 5, motor.length() + 7);
        Check.fault(motor + "motor y", 3, motor.length() + 6);
        Check.fault("fix 7 1;fix 8 1;fix  007", 5, 21);
        Check.fault("fix 7 1;fix 65 1;", 4, 12);
        Check.fits("fix 7 1;fix 8 1;fix 6 1;");
    }

    private static void promise5() {
        Check.sentence(5, "(0: without; ahead of any, too)");
        MicroSteps x = new MicroSteps();
        Check.same("ahead of any", x.fault(0), 0);
        Check.sentence(5, "its place (NONE)");
        Check.same("ahead of any", x.fault(1), Check.NONE);
        Check.sentence(5, "Of the latest bench()");
        Check.bench(x, "axis ?");
        Check.same("the first", x.fault(0), 1);
        Check.same("its place", x.fault(1), 5);
        Check.bench(x, "5");
        Check.same("the next", x.fault(0), 2);
        Check.same("its place", x.fault(1), 0);
        Check.feed(x, "??");
        Check.same("fed only", x.fault(0), 2);
        Check.same("its place", x.fault(1), 0);
        x.end(0);
        Check.same("without", x.bench(), 0);
        Check.same("without", x.fault(0), 0);
        Check.same("no place", x.fault(1), Check.NONE);
        Check.bench(x, AXIS + "motor y");
        Check.same("3", x.fault(0), 3);
        Check.same("its place", x.fault(1), 36);
        Check.sentence(5, "NONE for another what");
        for (int what : new int[] {-1, 2, 3, Integer.MIN_VALUE, Integer.MAX_VALUE}) {
            Check.same("fault " + what, x.fault(what), Check.NONE);
        }
    }
}
