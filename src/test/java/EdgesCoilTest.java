/** The edges that promises 41 to 45 name, one sentence of the document after the other. */
public final class EdgesCoilTest {
    public static void main(String[] args) {
        promise41();
        promise41Mode();
        promise42();
        promise43();
        promise44();
        promise45();
        promise45Moves();
        Check.finish();
    }

    private static void promise41() {
        Check.sentence(41, "A COIL toward a goal (0 .. 2,000) by MODE m, behind n TICKS (0 .. 1,000): its CURRENT");
        // 100, less (1,000 + 1) / 10: 0, 100 ..
        MicroSteps turns = Check.on("coil supply 1000 loss 1;");
        Check.same("0", turns.coil(100, 8, 0), 0);
        Check.same("1", turns.coil(100, 8, 1), 100);
        Check.same("2", turns.coil(100, 8, 2), 0);
        Check.same("999", turns.coil(100, 8, 999), 100);
        Check.same("1,000", turns.coil(100, 8, 1000), 0);
        Check.same("toward 0", turns.coil(0, 0, 1000), 0);
        // 200 a TICK: 2,000 behind ten, if it were for no LOSS: 200, 399 less ..
        MicroSteps most = Check.on("coil supply 2000 loss 1;");
        Check.same("200", most.coil(2000, 0, 1), 200);
        Check.same("399", most.coil(2000, 0, 2), 399);
        Check.sentence(41, "COIL: CURRENT i (0 at first) toward a goal, TICK by TICK: below the goal it is SUPPLY less i * LOSS / 100, by 10, more");
        // SUPPLY 19 by LOSS 1: 1 a TICK below 1,000, where 10 are lost
        MicroSteps slow = Check.on("coil supply 19 loss 1;");
        Check.same("999", slow.coil(2000, 8, 999), 999);
        Check.same("1,000", slow.coil(2000, 8, 1000), 1000);
        MicroSteps ten = Check.on("coil supply 10 loss 1;");
        Check.same("100", ten.coil(2000, 8, 100), 100);
        Check.same("no more", ten.coil(2000, 8, 1000), 100);
        Check.same("9 / 10 is 0", Check.on("coil supply 9 loss 1;").coil(2000, 8, 1000), 0);
        Check.sentence(41, "else it falls: slowly by i * LOSS / 1,000, fast by (SUPPLY and i * LOSS / 100) / 10, 0 at the least");
        MicroSteps quick = Check.on("coil supply 1000 loss 50;");
        // 100 toward 100: 100 * 50 / 1,000 = 5; toward 101: (1,000 - 50) / 10 more
        Check.same("at the goal it falls", quick.coil(100, 0, 2), 95);
        Check.same("below it rises", quick.coil(101, 0, 2), 195);
        // 195: slowly 9, fast (1,000 + 97) / 10 = 109
        Check.same("slowly", quick.coil(150, 0, 3), 186);
        Check.same("fast", quick.coil(150, 8, 3), 86);
        // 100: fast (1,000 + 50) / 10 = 105
        Check.same("0 at the least", quick.coil(1, 8, 2), 0);
        Check.sentence(41, "NONE if one can't be");
        int[][] wrong = {{-1, 0, 0}, {2001, 0, 0}, {0, -1, 0}, {0, 9, 0}, {0, 0, -1}, {0, 0, 1001}, {Check.LEAST, 0, 0},
            {Check.MOST, 0, 0}, {0, Check.LEAST, 0}, {0, Check.MOST, 0}, {0, 0, Check.LEAST}, {0, 0, Check.MOST}};
        for (int[] w : wrong) {
            Check.same("of " + w[0] + " " + w[1] + " " + w[2], turns.coil(w[0], w[1], w[2]), Check.NONE);
        }
    }

    private static void promise41Mode() {
        Check.sentence(41, "MODE m (0 .. 8): of each 8 TICKS, from the first one on, in the first m of these it falls fast, if it falls, in the others slowly");
        // 200 in the first, slowly by 200 * 1 / 1,000 = 0, fast by (2,000 + 2) / 10 = 200
        MicroSteps x = Check.on("coil supply 2000 loss 1;");
        Check.same("mode 0, second", x.coil(150, 0, 2), 200);
        Check.same("mode 1, second", x.coil(150, 1, 2), 200);
        Check.same("mode 2, second", x.coil(150, 2, 2), 0);
        Check.same("mode 1, eighth", x.coil(150, 1, 8), 200);
        Check.same("mode 1, ninth", x.coil(150, 1, 9), 0);
        Check.same("mode 0, ninth", x.coil(150, 0, 9), 200);
        Check.same("mode 1, 17th", x.coil(150, 1, 17), 0);
        // up in the odd ones, down in the even ones, to the m-th
        Check.same("mode 7, sixth", x.coil(150, 7, 6), 0);
        Check.same("mode 7, eighth", x.coil(150, 7, 8), 200);
        Check.same("mode 8, eighth", x.coil(150, 8, 8), 0);
        Check.same("mode 8, ninth", x.coil(150, 8, 9), 200);
    }

    private static void promise42() {
        Check.sentence(42, "A COIL that follows CURRENT of coil 1 of MICROS 0, 1, .. 64, 63, .. 0, each for n TICKS (1 .. 50), by MODE m");
        MicroSteps none = Check.on("coil supply 9 loss 1;fix 0 5;fix 64 7;");
        int sides = 0;
        for (int q = 1; q < 64; q++) {
            sides += 2 * none.table(q, 0);
        }
        // no CURRENT at all: both ends once 5, the top once 1,007
        Check.same("each once", none.follows(1, 0, 2), sides + 10 + 1007);
        Check.same("each 50 times", none.follows(50, 8, 2), 50 * (sides + 10 + 1007));
        Check.sentence(42, "what 0: by how much it is off most (behind a TICK), 1: how often it is above what it should be, 2: all that it is off, together");
        Check.same("most", none.follows(1, 0, 0), 1007);
        Check.same("never above", none.follows(1, 0, 1), 0);
        // -5 at both ends: above, n times each, and off by 5; 0 is not above 0
        MicroSteps below = Check.on("coil supply 9 loss 1;fix 0 -5;");
        Check.same("above", below.follows(1, 0, 1), 2);
        Check.same("above", below.follows(50, 0, 1), 100);
        Check.same("off", below.follows(1, 0, 2), sides + 10 + 1000);
        Check.same("not above", Check.on("coil supply 9 loss 1;").follows(50, 0, 1), 0);
        // these were played apart from this program
        MicroSteps x = new MicroSteps();
        int[][] due = {{1, 0, 769, 120, 17331}, {1, 8, 34, 54, 1979}, {2, 5, 39, 155, 3742}, {3, 1, 202, 323, 11244},
            {50, 0, 199, 5642, 117035}, {50, 8, 35, 2707, 95918}};
        for (int[] row : due) {
            for (int what = 0; what < 3; what++) {
                Check.same("follows " + row[0] + " " + row[1] + " " + what, x.follows(row[0], row[1], what), row[2 + what]);
            }
        }
        Check.sentence(42, "NONE if one can't be, or for another what");
        int[][] wrong = {{0, 0, 0}, {51, 0, 0}, {-1, 0, 0}, {1, -1, 0}, {1, 9, 0}, {1, 0, -1}, {1, 0, 3}, {Check.LEAST, 0, 0},
            {Check.MOST, 0, 0}, {1, Check.LEAST, 0}, {1, Check.MOST, 0}, {1, 0, Check.LEAST}, {1, 0, Check.MOST}};
        for (int[] w : wrong) {
            Check.same("of " + w[0] + " " + w[1] + " " + w[2], x.follows(w[0], w[1], w[2]), Check.NONE);
        }
    }

    private static void promise43() {
        Check.sentence(43, "A COIL toward a goal (0 .. 2,000) by MODE m: of TICKS 201 to 264 the greatest CURRENT less the least");
        // 1 a TICK: 201 behind TICK 201, 264 behind TICK 264
        MicroSteps slow = Check.on("coil supply 19 loss 1;");
        Check.same("201 to 264", slow.ripple(2000, 0), 63);
        Check.same("to 264", slow.ripple(264, 0), 63);
        Check.same("to 263", slow.ripple(263, 0), 62);
        Check.same("to 201", slow.ripple(201, 0), 0);
        Check.same("to 202", slow.ripple(202, 0), 1);
        Check.same("toward 0", slow.ripple(0, 8), 0);
        Check.same("100 and 0", Check.on("coil supply 1000 loss 1;").ripple(100, 8), 100);
        Check.same("100 and 100", Check.on("coil supply 1000 loss 1;").ripple(100, 0), 0);
        Check.sentence(43, "NONE if one can't be");
        int[][] wrong = {{-1, 0}, {2001, 0}, {0, -1}, {0, 9}, {Check.LEAST, 0}, {Check.MOST, 0}, {0, Check.LEAST}, {0, Check.MOST}};
        for (int[] w : wrong) {
            Check.same("of " + w[0] + " " + w[1], slow.ripple(w[0], w[1]), Check.NONE);
        }
    }

    private static void promise44() {
        Check.sentence(44, "The MODE by which that all is least (follows(), 2), of like ones the least");
        MicroSteps x = new MicroSteps();
        // played apart: 1,937 by 7, 1,979 by 8; 3,577 by 7; 5,675 by 5, 5,682 by 8; 78,754 by 2
        Check.same("1", x.mode(1), 7);
        Check.same("2", x.mode(2), 7);
        Check.same("3", x.mode(3), 5);
        Check.same("50", x.mode(50), 2);
        Check.same("8 may be", Check.on("coil supply 2000 loss 1;").mode(2), 8);
        Check.same("all alike", Check.on("coil supply 9 loss 1;").mode(1), 0);
        Check.same("all alike", Check.on("coil supply 9 loss 1;").mode(50), 0);
        Check.sentence(44, "NONE if n can't be");
        for (int n : new int[] {0, 51, -1, Check.LEAST, Check.MOST}) {
            Check.same("n " + n, x.mode(n), Check.NONE);
        }
    }

    private static void about(String name, MicroSteps x, int... due) {
        for (int what = 0; what < due.length; what++) {
            Check.same(name + ": about " + what, x.about(what), due[what]);
        }
    }

    private static void promise45() {
        Check.sentence(45, "0: AXES, 1: BANDS, 2: CORRECTIONS, 3: SUPPLY, 4: LOSS, 5: TICKS since bench()");
        about("new", new MicroSteps(), 0, 0, 0, 300, 5, 0, 0, 0, 0, 0, 0, 0, Check.NONE);
        MicroSteps x = Check.on(Check.TWO_AXES + "axis z speed 1 gain 1 jerk 1;band x 1 1;band x 1 1;band z 9 9;"
            + "fix 1 0;fix 2 2;fix 3 3;fix 4 -4;coil supply 44 loss 55;");
        about("told", x, 3, 3, 4, 44, 55, 0, 0, 0, 0, 0, 0, 0, Check.NONE);
        x.run(500);
        x.run(1);
        Check.same("ticks", x.about(5), 501);
        x.undo();
        Check.same("ticks", x.about(5), 500);
        Check.bench(x, Check.ONE_AXIS);
        Check.same("since bench()", x.about(5), 0);
        Check.sentence(45, "8: ACTS that can be undone, 9: bytes on the TAPE, 10: MOVES that wait");
        x.feed(0, 0, 0, 0, 0);
        x.end(7);
        x.go(100, 0, 0);
        x.queue(1, 0, 0);
        x.queue(2, 0, 0);
        Check.same("acts", x.about(8), 3);
        Check.same("bytes", x.about(9), 7);
        Check.same("wait", x.about(10), 2);
        x.undo();
        Check.same("acts", x.about(8), 2);
        Check.same("bytes are not undone", x.about(9), 7);
        Check.same("waits", x.about(10), 1);
        Check.sentence(45, "NONE for another what");
        for (int what : new int[] {-1, 13, 14, Check.LEAST, Check.MOST}) {
            Check.same("about " + what, x.about(what), Check.NONE);
        }
    }

    private static void promise45Moves() {
        Check.sentence(45, "6: 1 if a MOVE is on, else 0, 7: TICKS of it that are left");
        MicroSteps x = Check.on(Check.WEAK);
        x.go(100, 0, 0);
        x.queue(0, 0, 0);
        for (int left = 15; left > 0; left--) {
            Check.same("on", x.about(6), 1);
            Check.same("left", x.about(7), left);
            x.run(1);
        }
        Check.same("off", x.about(6), 0);
        Check.same("none left", x.about(7), 0);
        x.run(1);
        Check.same("the next is on", x.about(6), 1);
        Check.same("left", x.about(7), 14);
        Check.sentence(45, "11: the TICK in which one was TRIPPED last (0: none was), 12: by which AXIS (the first such; NONE)");
        MicroSteps two = Check.on(Check.WEAK + "axis y speed 10 gain 2 jerk 1;motor y hold 1 mass 40 damp 20;");
        Check.same("none", two.about(11), 0);
        Check.same("by none", two.about(12), Check.NONE);
        two.watch(1, 64);
        two.go(100, 100, 0);
        two.run(9);
        Check.same("in the second", two.about(11), 2);
        Check.same("by y", two.about(12), 1);
        two.watch(0, 65);
        two.go(100, 100, 0);
        two.run(9);
        Check.same("in the tenth", two.about(11), 10);
        Check.same("by both: the first", two.about(12), 0);
        Check.same("at 5", two.now(0, 0), 5);
        two.go(0, 0, 0);
        two.run(1);
        Check.same("by y: 64 is below 65", two.about(12), 1);
        Check.same("in the 19th", two.about(11), 19);
    }
}
