/** Promises 1 to 5: a new object, feed, end, bench, fault. */
public final class BenchTest {
    private static final String AXIS = Check.ONE_AXIS;

    public static void main(String[] args) {
        newObject();
        feedAndEnd();
        benchIsAllNew();
        faultKeepsAll();
        oneBenchBehindAnother();
        lines();
        noToken();
        cantStand();
        names();
        numbers();
        tooMany();
        firstByPlace();
        Check.finish();
    }

    private static void newObject() {
        MicroSteps x = new MicroSteps();
        int[] due = {0, 0, 0, 300, 5, 0, 0, 0, 0, 0, 0, 0, -1};
        for (int what = 0; what < due.length; what++) {
            Check.same("new about " + what, x.about(what), due[what]);
        }
        Check.same("new axis", x.axis(0, 0), Check.CANT);
        Check.same("new now", x.now(0, 0), Check.CANT);
        Check.same("new fault", x.fault(0), 0);
        Check.same("new place", x.fault(1), Check.NONE);
    }

    private static void feedAndEnd() {
        MicroSteps x = new MicroSteps();
        Check.same("end of nothing", x.end(0), 0);
        Check.same("end beyond", x.end(1), Check.NONE);
        for (int i = 1; i <= 45; i++) {
            Check.same("feed " + i, x.feed(i, 0, -1, 0, 0), 20 * i);
        }
        Check.same("feed beyond 900", x.feed(0, 0, 0, 0, 0), Check.NONE);
        Check.same("full", x.about(9), 900);
        Check.same("end below 0", x.end(-1), Check.NONE);
        Check.same("end beyond", x.end(901), Check.NONE);
        Check.same("end", x.end(881), 881);
        Check.same("feed to 901", x.feed(0, 0, 0, 0, 0), Check.NONE);
        Check.same("end", x.end(880), 880);
        Check.same("feed to 900", x.feed(0, 0, 0, 0, 0), 900);
        Check.same("end 0", x.end(0), 0);
        Check.same("highest byte first", x.feed('a' << 24 | 'x' << 16 | 'i' << 8 | 's', ' ' << 24 | '!', 0, 0, 0), 20);
        x.end(8);
        Check.same("its fault", x.bench(), Check.NONE);
        Check.same("at the byte 0", x.fault(1), 5);
    }

    private static void benchIsAllNew() {
        MicroSteps x = Check.on("axis a speed 9 gain 3 jerk 1; axis b speed 5 gain 1 jerk 1; band a 5 6; fix 3 4;"
            + "coil supply 20 loss 1; motor a hold 1 mass 1 damp 0;");
        x.load(0, 7);
        x.watch(0, 1);
        x.go(500, 20, 0);
        x.queue(1, 1, 1);
        x.run(30);
        Check.holds("something was tripped", x.about(11) > 0);
        x.go(0, 0, 0);
        Check.same("anew", Check.bench(x, AXIS), 1);
        int[] due = {1, 0, 0, 300, 5, 0, 0, 0, 0, 0, 0, 0, -1};
        for (int what = 0; what < due.length; what++) {
            Check.same("anew about " + what, x.about(what), due[what]);
        }
        for (int what = 0; what < 6; what++) {
            Check.same("anew now " + what, x.now(0, what), 0);
        }
        Check.same("its load", x.axis(0, 6), 0);
        Check.same("its limit", x.axis(0, 7), 0);
        Check.same("its hold", x.axis(0, 3), 1000);
        Check.same("its table", x.table(3, 1), x.table(3, 0));
        Check.same("nothing to undo", x.undo(), Check.NONE);
        Check.same("one axis", x.axis(1, 0), Check.CANT);
        Check.same("a bench of nothing", x.bench(), 0);
        Check.same("no axes", x.about(0), 0);
    }

    private static void faultKeepsAll() {
        MicroSteps x = Check.on(AXIS + "fix 1 5;");
        x.go(50, 0, 0);
        x.run(3);
        Check.same("a fault", Check.bench(x, "axis q speed 3 gain 1 jerk 1; fix 2 7; oops"), Check.NONE);
        Check.same("the tape is empty", x.about(9), 0);
        Check.same("the axis stays", x.axis(0, 0), 10);
        Check.same("where it is", x.now(0, 0), 9);
        Check.same("the move is on", x.about(6), 1);
        Check.same("acts", x.about(8), 2);
        Check.same("the table", x.table(1, 1), 29);
        Check.same("no other fix", x.table(2, 1), x.table(2, 0));
        Check.same("undo", x.undo(), 1);
        fault(x, 2, 39);
        Check.same("fault of another what", x.fault(2), Check.NONE);
        Check.same("fault of another what", x.fault(-1), Check.NONE);
        Check.bench(x, AXIS);
        fault(x, 0, -1);
    }

    /** Nothing of a bench is left in the ones behind it, with a FAULT or without. */
    private static void oneBenchBehindAnother() {
        MicroSteps x = new MicroSteps();
        String full = AXIS + "band x 3 4;motor x hold 7 mass 7 damp 7;fix 0 9;fix 64 -9;coil supply 7 loss 7;";
        for (int i = 0; i < 4; i++) {
            Check.same("full", Check.bench(x, full), 1);
            Check.same("bands", x.about(1), 1);
            Check.same("corrections", x.about(2), 2);
            Check.same("full, and a fault", Check.bench(x, full + "?"), Check.NONE);
            Check.same("bands stay", x.about(1), 1);
            Check.same("bare", Check.bench(x, AXIS), 1);
            int[] due = {1, 0, 0, 300, 5};
            for (int what = 0; what < due.length; what++) {
                Check.same("bare about " + what, x.about(what), due[what]);
            }
            Check.same("hold", x.axis(0, 3), 1000);
            Check.same("table", x.table(64, 1), 1000);
            Check.same("table", x.table(0, 1), 0);
        }
    }

    private static void lines() {
        MicroSteps x = Check.on("axis axi speed 60 gain 30 jerk 10 ;\naxis b speed 1 gain 1 jerk 1;"
            + "axis motors speed00007 gain3 jerk2;motor b hold 9999 mass 999 damp 90;motor axi hold1 mass1 damp0;"
            + "band b 1 60;band b 7 7;fix 0-200;fix 64 200;fix 5-0;coil supply 2000 loss 99;");
        Check.same("axes", x.about(0), 3);
        Check.same("numbered as told", x.axis(0, 0), 60);
        Check.same("gain", x.axis(0, 1), 30);
        Check.same("jerk", x.axis(0, 2), 10);
        Check.same("zeros ahead", x.axis(2, 0), 7);
        Check.same("gain behind", x.axis(2, 1), 3);
        Check.same("hold", x.axis(1, 3), 9999);
        Check.same("mass", x.axis(1, 4), 999);
        Check.same("damp", x.axis(1, 5), 90);
        Check.same("hold 1", x.axis(0, 3), 1);
        Check.same("damp 0", x.axis(0, 5), 0);
        Check.same("without: hold", x.axis(2, 3), 1000);
        Check.same("without: mass", x.axis(2, 4), 40);
        Check.same("without: damp", x.axis(2, 5), 20);
        Check.same("bands", x.about(1), 2);
        Check.same("corrections", x.about(2), 3);
        Check.same("supply", x.about(3), 2000);
        Check.same("loss", x.about(4), 99);
        Check.same("fix below 0", x.table(0, 1), -200);
        Check.same("fix above 0", x.table(64, 1), 1200);
        Check.fits("");
        Check.fits(" \n \n");
        Check.fits("coil supply 1 loss 1;");
        Check.fits(AXIS + "motor x hold 1 mass 1 damp 1;");
    }

    private static void noToken() {
        Check.fault("?", 1, 0);
        Check.fault(AXIS + " \t", 1, 31);
        Check.fault("Axis x", 1, 0);
        Check.fault("axis \u00e9", 1, 5);
        Check.fault("axis abcdefg speed", 1, 5);
        Check.fits("axis abcdef speed 1 gain 1 jerk 1;");
        Check.fault("axis x speed 000010 gain", 1, 13);
        Check.fits("axis x speed 00010 gain 1 jerk 1;");
        Check.fault("axis x speed 10gain 2", 1, 13);
        Check.fault("axis x speed 1 gain 2,", 1, 21);
        Check.fault("coilsup", 1, 0);
    }

    private static void cantStand() {
        Check.fault("axis", 2, 4);
        Check.fault("axis ", 2, 5);
        Check.fault("5", 2, 0);
        Check.fault(";", 2, 0);
        Check.fault("-", 2, 0);
        Check.fault("speed 5;", 2, 0);
        Check.fault("axes x", 2, 0);
        Check.fault("axis 5", 2, 5);
        Check.fault("axis axis", 2, 5);
        for (String word : Model.WORDS) {
            Check.fault("axis " + word + " speed 1", 2, 5);
            Check.fault(AXIS + "motor " + word, 2, 36);
            Check.fault(AXIS + "band " + word, 2, 35);
        }
        Check.fault("axis x gain 5", 2, 7);
        Check.fault("axis x speed x", 2, 13);
        Check.fault("axis x speed -5", 2, 13);
        Check.fault("axis x speed 1 gain 1 jerk 1", 2, 28);
        Check.fault("axis x speed 1 gain 1 jerk 1 1", 2, 29);
        Check.fault(AXIS + "motor x mass 1", 2, 38);
        Check.fault(AXIS + "band x 5;", 2, 38);
        Check.fault(AXIS + "band x -5 6;", 2, 37);
        Check.fault("fix - 3 4;", 2, 4);
        Check.fault("fix 3 - - 4;", 2, 8);
        Check.fault("fix 3 -;", 2, 7);
        Check.fault("fix 3;", 2, 5);
        Check.fault("coil loss 5", 2, 5);
        Check.fault("coil supply 5 loss 5 5;", 2, 21);
    }

    private static void names() {
        Check.fault(AXIS + "axis x speed", 3, 35);
        Check.fault("motor x hold 1", 3, 6);
        Check.fault("band x 1 2;", 3, 5);
        Check.fault(AXIS + "motor y hold", 3, 36);
        Check.fault(AXIS + "band xx 1 2;", 3, 35);
        Check.fault("band x 1 2;" + AXIS, 3, 5);
    }

    private static void numbers() {
        Check.fault("axis x speed 0 gain", 4, 13);
        Check.fault("axis x speed 61 gain", 4, 13);
        Check.fault("axis x speed 60 gain 0 jerk", 4, 21);
        Check.fault("axis x speed 60 gain 31 jerk", 4, 21);
        Check.fault("axis x speed 60 gain 30 jerk 0;", 4, 29);
        Check.fault("axis x speed 60 gain 30 jerk 11;", 4, 29);
        Check.fault(AXIS + "motor x hold 0", 4, 43);
        Check.fault(AXIS + "motor x hold 10000", 4, 43);
        Check.fault(AXIS + "motor x hold 1 mass 0", 4, 50);
        Check.fault(AXIS + "motor x hold 1 mass 1000", 4, 50);
        Check.fault(AXIS + "motor x hold 1 mass 1 damp 91", 4, 57);
        Check.fault(AXIS + "band x 0 5;", 4, 37);
        Check.fault(AXIS + "band x 61 61;", 4, 37);
        Check.fault(AXIS + "band x 5 61;", 4, 39);
        Check.fault(AXIS + "band x 5 4;", 4, 39);
        Check.fits(AXIS + "band x 5 5;");
        Check.fault("fix 65 1;", 4, 4);
        Check.fault("fix 64 201;", 4, 7);
        Check.fault("fix 64 -  201;", 4, 10);
        Check.fault("coil supply 0", 4, 12);
        Check.fault("coil supply 2001", 4, 12);
        Check.fault("coil supply 1 loss 0", 4, 19);
        Check.fault("coil supply 1 loss 100", 4, 19);
    }

    private static void tooMany() {
        String three = "axis a speed 1 gain 1 jerk 1;axis b speed 1 gain 1 jerk 1;axis c speed 1 gain 1 jerk 1;";
        Check.fits(three);
        Check.fault(three + " axis a speed ?", 5, 88);
        String six = AXIS + "band x 1 1;band x 1 2;band x 1 3;band x 1 4;band x 1 5;band x 1 6;";
        Check.fits(six);
        Check.fault(six + "band ? 0", 5, 96);
        Check.fault(AXIS + "motor x hold 1 mass 1 damp 1;motor x ?", 5, 65);
        Check.fault("fix 7 1;fix 8 1;fix 007 ?", 5, 20);
        Check.fault("fix 7 0;fix 7 1;", 5, 12);
        Check.fault("fix 0 0;fix 0 1;", 5, 12);
        Check.fault("fix 64 0;fix 64 1;", 5, 13);
        Check.fault("coil supply 1 loss 1; coil ?", 5, 22);
    }

    private static void firstByPlace() {
        Check.fault("fix 65 1; ?", 4, 4);
        Check.fault("axis x speed 99 ?", 4, 13);
        Check.fault("axis x speed 99a", 1, 13);
        Check.fault("abcdefg", 1, 0);
        Check.fault(AXIS + "axis x ?", 3, 35);
    }

    private static void fault(MicroSteps x, int code, int place) {
        Check.same("fault", x.fault(0), code);
        Check.same("place", x.fault(1), place);
    }
}
