/** Promises 41 to 45: coil, follows, ripple, mode, about. */
public final class CoilTest {
    public static void main(String[] args) {
        coil();
        follows();
        ripple();
        mode();
        about();
        Check.finish();
    }

    private static void coil() {
        MicroSteps x = new MicroSteps();
        int[] rise = {0, 30, 59, 88};
        for (int n = 0; n < rise.length; n++) {
            Check.same("rise " + n, x.coil(2000, 3, n), rise[n]);
        }
        MicroSteps quick = Check.on("coil supply 1000 loss 50;");
        // 100, then 1,000 less 50 by 10: 195; at 150 and above it falls: slowly by 195 * 50 / 1000 = 9
        Check.same("slowly", quick.coil(150, 0, 3), 186);
        // fast by (1000 + 97) / 10 = 109
        Check.same("fast", quick.coil(150, 8, 3), 86);
        // the third TICK is not one of the first two, but one of the first three
        Check.same("mode 2", quick.coil(150, 2, 3), 186);
        Check.same("mode 3", quick.coil(150, 3, 3), 86);
        // at the goal it falls: 100, less 100 * 50 / 1000
        Check.same("at the goal", quick.coil(100, 0, 2), 95);
        Check.same("0 at the least", quick.coil(50, 8, 2), 0);
        Check.same("toward 0", quick.coil(0, 8, 1000), 0);
        // by MODE 1 the ninth TICK is a first one again
        Check.same("again", Check.on("coil supply 2000 loss 1;").coil(150, 1, 9), 0);
        // 200, 198, and 1 less each TICK
        Check.same("slowly till then", Check.on("coil supply 2000 loss 10;").coil(150, 1, 8), 192);
        int[][] wrong = {{-1, 0, 0}, {2001, 0, 0}, {0, -1, 0}, {0, 9, 0}, {0, 0, -1}, {0, 0, 1001}};
        for (int[] w : wrong) {
            Check.same("coil of what can't be", x.coil(w[0], w[1], w[2]), Check.NONE);
        }
    }

    private static void follows() {
        MicroSteps x = Check.on("coil supply 10 loss 1;");
        Model model = modelOf("coil supply 10 loss 1;");
        for (int n : new int[] {1, 7, 50}) {
            for (int m = 0; m <= 8; m++) {
                for (int what = 0; what < 3; what++) {
                    Check.same("follows " + n + " " + m + " " + what, x.follows(n, m, what), model.follows(n, m, what));
                }
            }
        }
        MicroSteps flat = Check.on("coil supply 1 loss 1;");
        // no CURRENT at all: 1,000 off at most, never above, twice the table together
        int all = 0;
        for (int q = 0; q < 64; q++) {
            all += 2 * flat.table(q, 0);
        }
        Check.same("most", flat.follows(1, 0, 0), 1000);
        Check.same("above", flat.follows(1, 0, 1), 0);
        Check.same("all", flat.follows(3, 0, 2), 3 * (all + 1000));
        MicroSteps below = Check.on("coil supply 1 loss 1;fix 0 -5;fix 64 100;");
        // -5 at both ends: above there, and off by 5
        Check.same("most", below.follows(1, 0, 0), 1100);
        Check.same("above", below.follows(2, 0, 1), 4);
        Check.same("all", below.follows(1, 0, 2), all + 1100 + 10);
        int[][] wrong = {{0, 0, 0}, {51, 0, 0}, {1, -1, 0}, {1, 9, 0}, {1, 0, -1}, {1, 0, 3}};
        for (int[] w : wrong) {
            Check.same("follows of what can't be", x.follows(w[0], w[1], w[2]), Check.NONE);
        }
    }

    private static void ripple() {
        MicroSteps x = Check.on("coil supply 1000 loss 1;");
        // toward 100: 100, fast to 0, 100 ..: by MODE 8 from 100 to 0
        Check.same("fast", x.ripple(100, 8), 100);
        Check.same("toward 0", x.ripple(0, 8), 0);
        Model model = modelOf("coil supply 700 loss 33;");
        MicroSteps other = Check.on("coil supply 700 loss 33;");
        for (int m = 0; m <= 8; m++) {
            for (int goal : new int[] {1, 50, 333, 1000, 2000}) {
                Check.same("ripple " + goal + " " + m, other.ripple(goal, m), model.ripple(goal, m));
            }
        }
        int[][] wrong = {{-1, 0}, {2001, 0}, {0, -1}, {0, 9}};
        for (int[] w : wrong) {
            Check.same("ripple of what can't be", x.ripple(w[0], w[1]), Check.NONE);
        }
    }

    private static void mode() {
        MicroSteps flat = Check.on("coil supply 1 loss 1;");
        Check.same("all alike: the least", flat.mode(1), 0);
        String[] benches = {"", "coil supply 2000 loss 1;", "coil supply 500 loss 20;fix 0 9;fix 63 -50;"};
        for (String bench : benches) {
            MicroSteps x = Check.on(bench);
            Model model = modelOf(bench);
            for (int n : new int[] {1, 3, 10, 50}) {
                int best = x.mode(n);
                Check.same("mode " + n, best, model.mode(n));
                for (int m = 0; m <= 8; m++) {
                    Check.holds("none is less", x.follows(n, m, 2) >= x.follows(n, best, 2));
                }
            }
        }
        Check.same("below", flat.mode(0), Check.NONE);
        Check.same("beyond", flat.mode(51), Check.NONE);
    }

    private static void about() {
        MicroSteps x = Check.on(Check.ONE_AXIS + "axis y speed 1 gain 1 jerk 1;motor x hold 1 mass 1 damp 1;"
            + "band x 1 1;fix 1 0;fix 2 2;fix 3 3;coil supply 44 loss 55;");
        x.feed(0, 0, 0, 0, 0);
        x.watch(0, 16);
        x.go(50, 0, 0);
        x.queue(1, 1, 1);
        int[] before = {2, 1, 3, 44, 55, 0, 1, x.path(50, 0, 0, 0), 3, 20, 1, 0, -1};
        for (int what = 0; what < before.length; what++) {
            Check.same("about " + what, x.about(what), before[what]);
        }
        x.run(4);
        int[] behind = {2, 1, 3, 44, 55, 4, 0, 0, 4, 20, 0, 1, 0};
        for (int what = 0; what < behind.length; what++) {
            Check.same("about " + what, x.about(what), behind[what]);
        }
        Check.same("below", x.about(-1), Check.NONE);
        Check.same("beyond", x.about(13), Check.NONE);
    }

    private static Model modelOf(String bench) {
        Model model = new Model();
        model.told = new Model.Parser(Check.bytesOf(bench)).parse();
        return model;
    }
}
