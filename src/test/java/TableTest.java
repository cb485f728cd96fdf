/** Promises 6 to 10: table, current, field, mend, tuned. */
public final class TableTest {
    public static void main(String[] args) {
        table();
        current();
        field();
        mend();
        tuned();
        Check.finish();
    }

    private static void table() {
        MicroSteps x = Check.on("fix 0 -3; fix 32 200; fix 64 -200;");
        // 4000 * 2880 * 8640 / (165,888,000 - 2880 * 8640) = 99,532,800,000 / 141,004,800
        Check.same("table 32", x.table(32, 0), 705);
        Check.same("table 32 with", x.table(32, 1), 905);
        // 4000 * 1440 * 10080 / (165,888,000 - 14,515,200) = 58,060,800,000 / 151,372,800
        Check.same("table 16", x.table(16, 0), 383);
        Check.same("table 16 with", x.table(16, 1), 383);
        Check.same("table 0", x.table(0, 0), 0);
        Check.same("table 0 with", x.table(0, 1), -3);
        Check.same("table 64", x.table(64, 0), 1000);
        Check.same("table 64 with", x.table(64, 1), 800);
        Check.same("below", x.table(-1, 0), Check.CANT);
        Check.same("beyond", x.table(65, 1), Check.CANT);
        Check.same("what below", x.table(3, -1), Check.CANT);
        Check.same("what beyond", x.table(3, 2), Check.CANT);
    }

    private static void current() {
        MicroSteps x = Check.on("fix 1 10; fix 64 5;");
        int[] places = {0, 1, 63, 64, 65, 127, 128, 129, 191, 192, 193, 255, 256, -1, -63, -64, -128, -192};
        int[] due = {0, 34, 999, 1005, 999, 34, 0, -34, -999, -1005, -999, -34, 0, -34, -999, -1005, 0, 1005};
        for (int i = 0; i < places.length; i++) {
            Check.same("coil 1 of " + places[i], x.current(places[i], 1), due[i]);
            Check.same("coil 0 of " + places[i], x.current(places[i] - 64, 0), due[i]);
        }
        Check.same("the greatest", x.current(Integer.MAX_VALUE, 1), -34);
        Check.same("the greatest, coil 0", x.current(Integer.MAX_VALUE, 0), 999);
        Check.same("the least", x.current(Integer.MIN_VALUE, 1), 0);
        Check.same("the least, coil 0", x.current(Integer.MIN_VALUE, 0), 1005);
        Check.same("no coil", x.current(0, 2), Check.CANT);
        Check.same("no coil", x.current(0, -1), Check.CANT);
    }

    private static void field() {
        MicroSteps x = Check.on("fix 1 -200; fix 62 150;");
        // n = 1: -176, 999; n = 2: 49, 1148; n = 62: 1148, 49; n = 63: 999, -176
        Check.same("greatest", x.field(1), 1149);
        MicroSteps low = Check.on("fix 60 -200; fix 4 -99;");
        // n = 4: 0, 795; n = 60: 795, 0
        Check.same("least", low.field(0), 795);
        Check.same("first with it", low.field(2), 4);
        Check.same("what below", x.field(-1), Check.NONE);
        Check.same("what beyond", x.field(3), Check.NONE);
        MicroSteps plain = new MicroSteps();
        for (int what = 0; what < 3; what++) {
            Check.same("plain field " + what, plain.field(what), new Model().field(what));
        }
    }

    private static void mend() {
        MicroSteps x = new MicroSteps();
        // n = 0: CURRENTS 0 and 1000: no CORRECTION is needed
        Check.same("mend 0", x.mend(0), 0);
        // n = 32: twice 705: 997; 706: 998; 707: 999; 708: 1001: 707 is nearest, of like ones the least size
        Check.same("mend 32", x.mend(32), 2);
        MicroSteps far = Check.on("fix 64 -200;");
        // n = 0: 800 and c: 600 would be needed; 200 has 824, and so has 198 (679,204), not 197 (678,809)
        Check.same("mend 0, too far", far.mend(0), -198);
        MicroSteps near = Check.on("fix 64 -9;");
        // n = 0: 991 and c: 134 * 134 + 991 * 991 = 1,000,037; 133: 999,770
        Check.same("mend 0, either way", near.mend(0), -134);
        // n = 10: TABLE 10 is 244, 54 is 969, 196 less: 444 and 773 have 891 (794,665), 443 has 890 (793,778)
        MicroSteps up = Check.on("fix 54 -196;");
        Check.same("table 10", up.table(10, 0), 244);
        Check.same("table 54", up.table(54, 1), 773);
        Check.same("mend 10, too far up", up.mend(10), 200);
        Check.same("mend 64 is as if it were not told", near.mend(64), 0);
        Check.same("mend does nothing", near.table(0, 1), 0);
        Check.same("below", x.mend(-1), Check.CANT);
        Check.same("beyond", x.mend(65), Check.CANT);
    }

    private static void tuned() {
        String[] benches = {"", "fix 64 -200; fix 3 0;", "fix 0 5; fix 32 -100; fix 10 200;"};
        for (String text : benches) {
            MicroSteps x = Check.on(text);
            Model model = new Model();
            for (String line : text.isEmpty() ? new String[0] : text.split(";")) {
                String[] parts = line.trim().split(" ");
                model.told.fixes[Integer.parseInt(parts[1])] = Integer.parseInt(parts[2]);
            }
            for (int what = 0; what < 3; what++) {
                Check.same("tuned " + what + " of " + text, x.tuned(what), model.tuned(what));
            }
            Check.holds("a field no worse", x.tuned(0) >= x.field(0));
            Check.same("tuned does nothing", x.table(32, 1) - x.table(32, 0), text.contains("32") ? -100 : 0);
            Check.same("what below", x.tuned(-1), Check.NONE);
            Check.same("what beyond", x.tuned(3), Check.NONE);
        }
    }
}
