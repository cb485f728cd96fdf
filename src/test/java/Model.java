import java.util.ArrayDeque;
import java.util.ArrayList;
import java.util.Arrays;
import java.util.Deque;
import java.util.List;

/**
 * The document once more, as slow and plain as can be: speeds are lists, what is
 * asked ahead is played on copies. MicroSteps is held against it.
 */
final class Model {
    static final int NONE = -1;
    static final int CANT = Integer.MIN_VALUE;
    static final List<String> WORDS = List.of("axis", "motor", "band", "fix", "coil", "speed", "gain", "jerk", "hold",
        "mass", "damp", "supply", "loss");

    static final class Fault extends RuntimeException {
        private static final long serialVersionUID = 1L;
        final int code;
        final int place;

        Fault(int code, int place) {
            this.code = code;
            this.place = place;
        }
    }

    record Token(String text, int place, boolean bad) {
        boolean isNumber() {
            return !bad && !text.isEmpty() && Character.isDigit(text.charAt(0));
        }

        boolean isWord() {
            return !bad && !text.isEmpty() && text.charAt(0) >= 'a' && text.charAt(0) <= 'z';
        }
    }

    static final class Told {
        final List<String> names = new ArrayList<>();
        final List<int[]> axes = new ArrayList<>(); // speed gain jerk hold mass damp
        final List<int[]> bands = new ArrayList<>(); // axis from to
        final Integer[] fixes = new Integer[65];
        final boolean[] motors = new boolean[3];
        int supply = 300;
        int loss = 5;
        boolean coil;
    }

    static final class Parser {
        final byte[] tape;
        final Told told = new Told();
        final List<Token> tokens = new ArrayList<>();
        int next = 0;

        Parser(byte[] tape) {
            this.tape = tape;
            String text = new String(tape, java.nio.charset.StandardCharsets.ISO_8859_1);
            int at = 0;
            while (at < text.length()) {
                String rest = text.substring(at);
                String word = rest.replaceAll("(?s)^([a-z]*).*", "$1");
                String digits = rest.replaceAll("(?s)^([0-9]*).*", "$1");
                if (rest.startsWith(" ") || rest.startsWith("\n")) {
                    at++;
                } else if (!word.isEmpty()) {
                    tokens.add(new Token(word, at, word.length() > 6));
                    at += word.length();
                } else if (!digits.isEmpty()) {
                    boolean letter = rest.matches("(?s)^[0-9]+[a-z].*");
                    tokens.add(new Token(digits, at, digits.length() > 5 || letter));
                    at += digits.length();
                } else {
                    tokens.add(new Token(rest.substring(0, 1), at, !rest.startsWith("-") && !rest.startsWith(";")));
                    at++;
                }
            }
            tokens.add(new Token("", text.length(), false));
        }

        Token take() {
            Token token = tokens.get(next);
            if (token.bad) {
                throw new Fault(1, token.place);
            }
            next++;
            return token;
        }

        void expect(String text) {
            Token token = take();
            if (!token.text.equals(text)) {
                throw new Fault(2, token.place);
            }
        }

        int number(int least, int most) {
            Token token = take();
            if (!token.isNumber()) {
                throw new Fault(2, token.place);
            }
            int n = Integer.parseInt(token.text);
            if (n < least || n > most) {
                throw new Fault(4, token.place);
            }
            return n;
        }

        Token name() {
            Token token = take();
            if (!token.isWord() || WORDS.contains(token.text)) {
                throw new Fault(2, token.place);
            }
            return token;
        }

        int axisNamed() {
            Token token = name();
            int axis = told.names.indexOf(token.text);
            if (axis < 0) {
                throw new Fault(3, token.place);
            }
            return axis;
        }

        Told parse() {
            while (tokens.get(next).bad || !tokens.get(next).text.isEmpty()) {
                Token word = take();
                switch (word.text) {
                    case "axis" -> axisLine(word);
                    case "motor" -> motorLine();
                    case "band" -> bandLine(word);
                    case "fix" -> fixLine();
                    case "coil" -> coilLine(word);
                    default -> throw new Fault(2, word.place);
                }
                expect(";");
            }
            return told;
        }

        void axisLine(Token word) {
            if (told.names.size() == 3) {
                throw new Fault(5, word.place);
            }
            Token name = name();
            if (told.names.contains(name.text)) {
                throw new Fault(3, name.place);
            }
            int[] axis = {0, 0, 0, 1000, 40, 20};
            expect("speed");
            axis[0] = number(1, 60);
            expect("gain");
            axis[1] = number(1, 30);
            expect("jerk");
            axis[2] = number(1, 10);
            told.names.add(name.text);
            told.axes.add(axis);
        }

        void motorLine() {
            int place = tokens.get(next).place;
            int axis = axisNamed();
            if (told.motors[axis]) {
                throw new Fault(5, place);
            }
            told.motors[axis] = true;
            expect("hold");
            told.axes.get(axis)[3] = number(1, 9999);
            expect("mass");
            told.axes.get(axis)[4] = number(1, 999);
            expect("damp");
            told.axes.get(axis)[5] = number(0, 90);
        }

        void bandLine(Token word) {
            if (told.bands.size() == 6) {
                throw new Fault(5, word.place);
            }
            int axis = axisNamed();
            int from = number(1, 60);
            int to = number(from, 60);
            told.bands.add(new int[] {axis, from, to});
        }

        void fixLine() {
            int place = tokens.get(next).place;
            int q = number(0, 64);
            if (told.fixes[q] != null) {
                throw new Fault(5, place);
            }
            boolean minus = tokens.get(next).text.equals("-") && !tokens.get(next).bad;
            if (minus) {
                next++;
            }
            int n = number(0, 200);
            told.fixes[q] = minus ? -n : n;
        }

        void coilLine(Token word) {
            if (told.coil) {
                throw new Fault(5, word.place);
            }
            told.coil = true;
            expect("supply");
            told.supply = number(1, 2000);
            expect("loss");
            told.loss = number(1, 99);
        }
    }

    /** A MOVE: its speeds of the LEAD, TICK by TICK, those that are left at the end. */
    static final class Course {
        int lead;
        int way;
        int speed;
        int gain;
        int jerk;
        int reached;
        int rampTicks;
        int[] from;
        int[] d;
        List<Integer> speeds = new ArrayList<>();

        int place(int axis, int s) {
            long size = Math.abs(d[axis]);
            long part = (2L * s * size + way) / (2L * way);
            return (int) (from[axis] + Integer.signum(d[axis]) * part);
        }
    }

    /** All that ACTS change. */
    static final class World {
        int[] at = new int[3];
        int[] place = new int[3];
        int[] swing = new int[3];
        int[] load = new int[3];
        int[] limit = new int[3];
        int[] stalled = new int[3];
        int ticks;
        int tripped;
        int trippedBy = NONE;
        Course course;
        int gone;
        int latest;
        boolean halted;
        List<Integer> speedsLeft = new ArrayList<>();
        List<int[]> waits = new ArrayList<>();

        World copy() {
            World w = new World();
            w.at = at.clone();
            w.place = place.clone();
            w.swing = swing.clone();
            w.load = load.clone();
            w.limit = limit.clone();
            w.stalled = stalled.clone();
            w.ticks = ticks;
            w.tripped = tripped;
            w.trippedBy = trippedBy;
            w.course = course;
            w.gone = gone;
            w.latest = latest;
            w.halted = halted;
            w.speedsLeft = new ArrayList<>(speedsLeft);
            w.waits = new ArrayList<>(waits);
            return w;
        }
    }

    byte[] tape = new byte[0];
    Told told = new Told();
    World world = new World();
    Deque<World> undos = new ArrayDeque<>();
    int faultCode = 0;
    int faultPlace = NONE;

    public int feed(int a, int b, int c, int d, int e) {
        if (tape.length + 20 > 900) {
            return NONE;
        }
        java.nio.ByteBuffer more = java.nio.ByteBuffer.allocate(tape.length + 20);
        more.put(tape).putInt(a).putInt(b).putInt(c).putInt(d).putInt(e);
        tape = more.array();
        return tape.length;
    }

    public int end(int n) {
        if (n < 0 || n > tape.length) {
            return NONE;
        }
        tape = Arrays.copyOf(tape, n);
        return n;
    }

    public int bench() {
        byte[] text = tape;
        tape = new byte[0];
        try {
            told = new Parser(text).parse();
        } catch (Fault fault) {
            faultCode = fault.code;
            faultPlace = fault.place;
            return NONE;
        }
        faultCode = 0;
        faultPlace = NONE;
        world = new World();
        undos.clear();
        return told.axes.size();
    }

    public int fault(int what) {
        return what == 0 ? faultCode : what == 1 ? faultPlace : NONE;
    }

    // ---- the table

    static int plain(int q) {
        long a = 90 * q;
        return (int) (4000 * a * (11520 - a) / (165888000 - a * (11520 - a)));
    }

    int[] fixes() {
        int[] row = new int[65];
        for (int q = 0; q <= 64; q++) {
            row[q] = told.fixes[q] == null ? 0 : told.fixes[q];
        }
        return row;
    }

    static int sine(int n, int[] fixes) {
        int m = Math.floorMod(n, 256);
        int rest = m % 64;
        int q = m / 64 % 2 == 0 ? rest : 64 - rest;
        int size = plain(q) + (fixes == null ? 0 : fixes[q]);
        return m < 128 ? size : -size;
    }

    public int table(int q, int what) {
        if (q < 0 || q > 64 || what < 0 || what > 1) {
            return CANT;
        }
        return plain(q) + what * fixes()[q];
    }

    public int current(int n, int coil) {
        return coil == 1 ? sine(n, fixes()) : coil == 0 ? sine(Math.floorMod(n, 256) + 64, fixes()) : CANT;
    }

    static int root(int n, int[] fixes) {
        int a = sine(n, fixes);
        int b = sine(n + 64, fixes);
        int r = 0;
        while ((r + 1) * (r + 1) <= a * a + b * b) {
            r++;
        }
        return r;
    }

    static int fieldOf(int[] fixes, int what) {
        int[] roots = new int[64];
        for (int n = 0; n < 64; n++) {
            roots[n] = root(n, fixes);
        }
        int[] sorted = roots.clone();
        Arrays.sort(sorted);
        if (what == 2) {
            for (int n = 0; n < 64; n++) {
                if (roots[n] == sorted[0]) {
                    return n;
                }
            }
        }
        return what == 0 ? sorted[0] : what == 1 ? sorted[63] : NONE;
    }

    public int field(int what) {
        return fieldOf(fixes(), what);
    }

    static int mendOf(int[] fixes, int q) {
        int best = 0;
        int bestOff = Integer.MAX_VALUE;
        int[] row = fixes.clone();
        for (int c = -200; c <= 200; c++) {
            row[q] = c;
            int off = Math.abs(root(q, row) - 1000);
            boolean better = off < bestOff || off == bestOff && Math.abs(c) < Math.abs(best);
            if (better) {
                best = c;
                bestOff = off;
            }
        }
        return best;
    }

    public int mend(int q) {
        return q < 0 || q > 64 ? CANT : mendOf(fixes(), q);
    }

    public int tuned(int what) {
        int[] row = fixes();
        for (int q = 0; q <= 64; q++) {
            row[q] = mendOf(row, q);
        }
        int others = 0;
        for (int q = 0; q <= 64; q++) {
            others += row[q] == fixes()[q] ? 0 : 1;
        }
        return what == 0 || what == 1 ? fieldOf(row, what) : what == 2 ? others : NONE;
    }

    // ---- ramps and moves

    static List<Integer> rampSpeeds(int top, int gain, int jerk) {
        List<Integer> speeds = new ArrayList<>();
        int v = 0;
        int g = 0;
        boolean more = true;
        while (more) {
            more = false;
            for (int next : new int[] {g + jerk, g, g - jerk}) {
                int sum = v;
                for (int x = next; x > 0; x -= jerk) {
                    sum += x;
                }
                if (next <= gain && next > 0 && sum <= top) {
                    g = next;
                    v += g;
                    speeds.add(v);
                    more = true;
                    break;
                }
            }
        }
        return speeds;
    }

    static int sum(List<Integer> speeds) {
        int all = 0;
        for (int s : speeds) {
            all += s;
        }
        return all;
    }

    static int last(List<Integer> speeds) {
        return speeds.isEmpty() ? 0 : speeds.get(speeds.size() - 1);
    }

    static boolean canRamp(int v, int a, int j) {
        return v >= 0 && v <= 60 && a >= 1 && a <= 30 && j >= 1 && j <= 10;
    }

    public int ramp(int v, int a, int j, int what) {
        if (!canRamp(v, a, j)) {
            return NONE;
        }
        List<Integer> speeds = rampSpeeds(v, a, j);
        return what == 0 ? speeds.size() : what == 1 ? last(speeds) : what == 2 ? sum(speeds) : NONE;
    }

    public int rampAt(int v, int a, int j, int k) {
        if (!canRamp(v, a, j)) {
            return NONE;
        }
        List<Integer> speeds = rampSpeeds(v, a, j);
        return k < 1 || k > speeds.size() ? NONE : speeds.get(k - 1);
    }

    int bandsOf(int axis, int speed) {
        int n = 0;
        for (int[] band : told.bands) {
            n += band[0] == axis && speed >= band[1] && speed <= band[2] ? 1 : 0;
        }
        return n;
    }

    void fill(Course c) {
        List<Integer> up = null;
        for (int v = 0; v <= c.speed; v++) {
            List<Integer> speeds = rampSpeeds(v, c.gain, c.jerk);
            if (2 * sum(speeds) <= c.way && bandsOf(c.lead, last(speeds)) == 0) {
                up = speeds;
            }
        }
        c.reached = last(up);
        c.rampTicks = up.size();
        c.speeds.addAll(up);
        int rest = c.way - 2 * sum(up);
        if (rest > 0) {
            int pace = Math.max(1, c.reached);
            int n = rest / pace + (rest % pace == 0 ? 0 : 1);
            long before = 0;
            for (int k = 1; k <= n; k++) {
                long gone = (long) rest * k / n;
                c.speeds.add((int) (gone - before));
                before = gone;
            }
        }
        for (int i = up.size() - 1; i >= 0; i--) {
            c.speeds.add(up.get(i));
        }
    }

    Course courseTo(World w, int[] to) {
        Course c = new Course();
        c.from = w.at.clone();
        c.d = new int[3];
        for (int a = 0; a < told.axes.size(); a++) {
            c.d[a] = to[a] - w.at[a];
            if (Math.abs(c.d[a]) > c.way) {
                c.way = Math.abs(c.d[a]);
                c.lead = a;
            }
        }
        if (c.way == 0) {
            return null;
        }
        c.speed = c.gain = c.jerk = Integer.MAX_VALUE;
        for (int a = 0; a < told.axes.size(); a++) {
            if (c.d[a] != 0) {
                c.speed = Math.min(c.speed, told.axes.get(a)[0] * c.way / Math.abs(c.d[a]));
                c.gain = Math.min(c.gain, told.axes.get(a)[1] * c.way / Math.abs(c.d[a]));
                c.jerk = Math.min(c.jerk, told.axes.get(a)[2] * c.way / Math.abs(c.d[a]));
            }
        }
        fill(c);
        return c;
    }

    boolean canBe(int... to) {
        for (int a = 0; a < told.axes.size(); a++) {
            if (to[a] < -30000 || to[a] > 30000) {
                return false;
            }
        }
        return true;
    }

    Course asked(int x, int y, int z) {
        return canBe(x, y, z) ? courseTo(world, new int[] {x, y, z}) : null;
    }

    boolean isAxis(int axis) {
        return axis >= 0 && axis < told.axes.size();
    }

    public int path(int x, int y, int z, int what) {
        Course c = asked(x, y, z);
        if (c == null) {
            return NONE;
        }
        int banded = 0;
        for (int s : c.speeds) {
            banded += bandsOf(c.lead, s) > 0 ? 1 : 0;
        }
        int[] answers = {c.speeds.size(), c.lead, c.way, c.speed, c.reached, c.rampTicks, banded};
        return what < 0 || what > 6 ? NONE : answers[what];
    }

    public int pathAt(int x, int y, int z, int axis, int k) {
        Course c = asked(x, y, z);
        if (c == null || !isAxis(axis) || k < 0 || k > c.speeds.size()) {
            return CANT;
        }
        return c.place(axis, sum(c.speeds.subList(0, k)));
    }

    public int stamp(int x, int y, int z, int axis, int k) {
        Course c = asked(x, y, z);
        if (c == null || !isAxis(axis) || k < 1) {
            return NONE;
        }
        int s = 0;
        for (int tick = 0; tick < c.speeds.size(); tick++) {
            int w = c.speeds.get(tick);
            for (int j = 1; j <= w; j++) {
                s++;
                if (Math.abs(c.place(axis, s) - c.from[axis]) == k) {
                    return 1000 * tick + j * 1000 / w;
                }
            }
        }
        return NONE;
    }

    public int peak(int x, int y, int z, int what) {
        Course c = asked(x, y, z);
        if (c == null) {
            return NONE;
        }
        List<Integer> speeds = new ArrayList<>(c.speeds);
        speeds.add(0, 0);
        speeds.add(0);
        List<Integer> changes = new ArrayList<>();
        changes.add(0);
        int greatest = 0;
        for (int i = 1; i < speeds.size(); i++) {
            changes.add(speeds.get(i) - speeds.get(i - 1));
            greatest = Math.max(greatest, Math.abs(last(changes)));
        }
        int jolt = 0;
        for (int i = 1; i < changes.size(); i++) {
            jolt = Math.max(jolt, Math.abs(changes.get(i) - changes.get(i - 1)));
        }
        return what == 0 ? greatest : what == 1 ? jolt : NONE;
    }

    int ticksAlone(int axis, int way, int speed) {
        Course c = new Course();
        c.lead = axis;
        c.way = way;
        c.speed = speed;
        c.gain = told.axes.get(axis)[1];
        c.jerk = told.axes.get(axis)[2];
        fill(c);
        return c.speeds.size();
    }

    public int needed(int axis, int way, int ticks) {
        if (!isAxis(axis) || way < 1 || way > 30000 || ticks < 1 || ticks > 60000) {
            return NONE;
        }
        for (int speed = 1; speed <= 60; speed++) {
            if (ticksAlone(axis, way, speed) <= ticks) {
                return speed;
            }
        }
        return NONE;
    }

    public int most(int x, int y, int z, int axis) {
        Course c = asked(x, y, z);
        if (c == null || !isAxis(axis)) {
            return NONE;
        }
        int greatest = 0;
        int s = 0;
        for (int w : c.speeds) {
            greatest = Math.max(greatest, Math.abs(c.place(axis, s + w) - c.place(axis, s)));
            s += w;
        }
        return greatest;
    }

    public int drives(int x, int y, int z, int axis, int m, int what) {
        Course c = asked(x, y, z);
        if (c == null || !isAxis(axis) || m < 0 || m > 8) {
            return NONE;
        }
        int[] fixes = fixes();
        int s = 0;
        int i = 0;
        int greatest = 0;
        int all = 0;
        for (int t = 0; t < c.speeds.size(); t++) {
            s += c.speeds.get(t);
            int goal = Math.abs(sine(c.place(axis, s), fixes));
            i = coilBehind(i, goal, t, m);
            greatest = Math.max(greatest, Math.abs(i - goal));
            all += Math.abs(i - goal);
        }
        return what == 0 ? greatest : what == 1 ? all : NONE;
    }

    public int quickest(int axis, int way, int what) {
        if (!isAxis(axis) || way < 1 || way > 30000) {
            return NONE;
        }
        int best = 1;
        for (int speed = 2; speed <= 60; speed++) {
            if (ticksAlone(axis, way, speed) < ticksAlone(axis, way, best)) {
                best = speed;
            }
        }
        return what == 0 ? best : what == 1 ? ticksAlone(axis, way, best) : NONE;
    }

    // ---- acts

    void keep() {
        undos.push(world.copy());
        if (undos.size() > 10) {
            undos.removeLast();
        }
    }

    static void begin(World w, Course c) {
        w.course = c;
        w.gone = 0;
        w.latest = 0;
        w.halted = false;
        w.speedsLeft = new ArrayList<>(c.speeds);
    }

    public int go(int x, int y, int z) {
        Course c = asked(x, y, z);
        if (c == null || world.course != null) {
            return NONE;
        }
        keep();
        begin(world, c);
        return c.speeds.size();
    }

    public int halt() {
        if (world.course == null || world.halted) {
            return NONE;
        }
        List<Integer> down = rampSpeeds(world.latest, world.course.gain, world.course.jerk);
        java.util.Collections.reverse(down);
        if (sum(down) > world.course.way - world.gone) {
            return NONE;
        }
        keep();
        world.halted = true;
        world.speedsLeft = down;
        world.waits.clear();
        if (down.isEmpty()) {
            world.course = null;
        }
        return down.size();
    }

    int pushOf(int axis, int angle, int load) {
        int[] motor = told.axes.get(axis);
        int pull = motor[3] * sine(angle / 16, null) / 1000;
        return (pull - load) / motor[4];
    }

    int swingBehind(int axis, int angle, int load, int swing) {
        int next = swing + pushOf(axis, angle, load);
        next = next - next * told.axes.get(axis)[5] / 100;
        return next < -2000 ? -2000 : next > 2000 ? 2000 : next;
    }

    static int angle(World w, int axis) {
        return 16 * w.at[axis] - w.place[axis];
    }

    void tick(World w) {
        w.ticks++;
        while (w.course == null && !w.waits.isEmpty()) {
            Course c = courseTo(w, w.waits.remove(0));
            if (c != null) {
                begin(w, c);
            }
        }
        if (w.course != null) {
            w.latest = w.speedsLeft.remove(0);
            w.gone += w.latest;
            for (int a = 0; a < 3; a++) {
                w.at[a] = w.course.place(a, w.gone);
            }
            if (w.speedsLeft.isEmpty()) {
                w.course = null;
            }
        }
        for (int a = 0; a < told.axes.size(); a++) {
            w.swing[a] = swingBehind(a, angle(w, a), w.load[a], w.swing[a]);
            w.place[a] += w.swing[a];
        }
        for (int a = 0; a < told.axes.size(); a++) {
            if (w.stalled[a] == 0 && Math.abs(angle(w, a)) >= 1024) {
                w.stalled[a] = w.ticks;
            }
        }
        for (int a = 0; a < told.axes.size() && w.course != null; a++) {
            if (w.limit[a] > 0 && Math.abs(angle(w, a)) >= w.limit[a]) {
                w.course = null;
                w.waits.clear();
                w.tripped = w.ticks;
                w.trippedBy = a;
            }
        }
    }

    public int run(int n) {
        if (n < 1 || n > 500 || told.axes.isEmpty()) {
            return NONE;
        }
        keep();
        for (int i = 0; i < n; i++) {
            tick(world);
        }
        return world.course == null ? 0 : sum(world.speedsLeft);
    }

    public int queue(int x, int y, int z) {
        if (world.course == null || !canBe(x, y, z) || world.waits.size() == 8) {
            return NONE;
        }
        keep();
        world.waits.add(new int[] {x, y, z});
        return world.waits.size();
    }

    public int watch(int axis, int limit) {
        if (!isAxis(axis) || limit < 0 || limit > 2048 || world.limit[axis] == limit) {
            return NONE;
        }
        keep();
        int old = world.limit[axis];
        world.limit[axis] = limit;
        return old;
    }

    public int load(int axis, int v) {
        if (!isAxis(axis) || v < -2000 || v > 2000 || world.load[axis] == v) {
            return CANT;
        }
        keep();
        int old = world.load[axis];
        world.load[axis] = v;
        return old;
    }

    public int trueUp() {
        int elsewhere = 0;
        boolean stalled = false;
        boolean out = false;
        int[] places = new int[3];
        for (int a = 0; a < told.axes.size(); a++) {
            places[a] = (int) Math.floor(world.place[a] / 16.0);
            elsewhere += places[a] != world.at[a] ? 1 : 0;
            stalled |= world.stalled[a] != 0;
            out |= places[a] < -30000 || places[a] > 30000;
        }
        if (world.course != null || out || elsewhere == 0 && !stalled) {
            return NONE;
        }
        keep();
        world.at = places;
        world.stalled = new int[3];
        return elsewhere;
    }

    public int undo() {
        if (undos.isEmpty()) {
            return NONE;
        }
        world = undos.pop();
        return undos.size();
    }

    // ---- what there is

    public int axis(int axis, int what) {
        if (!isAxis(axis) || what < 0 || what > 7) {
            return CANT;
        }
        return what < 6 ? told.axes.get(axis)[what] : what == 6 ? world.load[axis] : world.limit[axis];
    }

    public int now(int axis, int what) {
        if (!isAxis(axis) || what < 0 || what > 5) {
            return CANT;
        }
        int slipped = (int) Math.floor((angle(world, axis) + 2048) / 4096.0);
        return new int[] {world.at[axis], world.place[axis], world.swing[axis], angle(world, axis),
            world.stalled[axis], slipped}[what];
    }

    public int bands(int axis, int speed) {
        return !isAxis(axis) || speed < 1 || speed > 60 ? NONE : bandsOf(axis, speed);
    }

    // ---- what would be

    public int stallIn(int axis) {
        if (!isAxis(axis)) {
            return NONE;
        }
        World w = world.copy();
        for (int t = 0; t <= 2000; t++) {
            if (w.stalled[axis] != 0) {
                return t;
            }
            tick(w);
        }
        return NONE;
    }

    boolean isSteady(World w) {
        boolean calm = w.course == null && w.waits.isEmpty();
        for (int a = 0; a < told.axes.size(); a++) {
            calm = calm && w.swing[a] == 0 && pushOf(a, angle(w, a), w.load[a]) == 0;
        }
        return calm;
    }

    public int calmIn() {
        if (told.axes.isEmpty()) {
            return NONE;
        }
        World w = world.copy();
        for (int t = 0; t <= 2000; t++) {
            if (isSteady(w)) {
                return t;
            }
            tick(w);
        }
        return NONE;
    }

    public int carries(int axis, int n) {
        if (!isAxis(axis) || n < 1 || n > 200) {
            return NONE;
        }
        int best = NONE;
        for (int load = 2000; load >= 0 && best == NONE; load--) {
            World w = world.copy();
            w.load[axis] = load;
            for (int t = 0; t < n && w.stalled[axis] == 0; t++) {
                tick(w);
            }
            best = w.stalled[axis] == 0 ? load : NONE;
        }
        return best;
    }

    public int strain(int axis, int n) {
        if (!isAxis(axis) || n < 1 || n > 1000) {
            return NONE;
        }
        World w = world.copy();
        int greatest = 0;
        for (int t = 0; t < n; t++) {
            tick(w);
            greatest = Math.max(greatest, Math.abs(angle(w, axis)));
        }
        return greatest;
    }

    public int swings(int axis, int a, int n) {
        if (!isAxis(axis) || a < -1023 || a > 1023 || n < 1 || n > 500) {
            return NONE;
        }
        int angle = a;
        int swing = 0;
        int changes = 0;
        for (int t = 0; t < n; t++) {
            int next = swingBehind(axis, angle, world.load[axis], swing);
            changes += Integer.signum(next) != Integer.signum(swing) ? 1 : 0;
            swing = next;
            angle -= swing;
        }
        return changes;
    }

    public int settles(int axis, int a) {
        if (!isAxis(axis) || a < -1023 || a > 1023) {
            return NONE;
        }
        int angle = a;
        int swing = 0;
        for (int t = 0; t <= 2000; t++) {
            if (swing == 0 && pushOf(axis, angle, world.load[axis]) == 0) {
                return t;
            }
            swing = swingBehind(axis, angle, world.load[axis], swing);
            angle -= swing;
        }
        return NONE;
    }

    int shakeOf(int axis, int w, int n) {
        int angle = 0;
        int swing = 0;
        int greatest = 0;
        for (int t = 0; t < n; t++) {
            angle += 16 * w;
            swing = swingBehind(axis, angle, world.load[axis], swing);
            angle -= swing;
            greatest = Math.max(greatest, Math.abs(angle));
        }
        return greatest;
    }

    public int shake(int axis, int w, int n) {
        return !isAxis(axis) || w < 0 || w > 60 || n < 1 || n > 500 ? NONE : shakeOf(axis, w, n);
    }

    public int worst(int axis, int n) {
        if (!isAxis(axis) || n < 1 || n > 100) {
            return NONE;
        }
        int worst = 1;
        for (int w = 2; w <= told.axes.get(axis)[0]; w++) {
            worst = shakeOf(axis, w, n) > shakeOf(axis, worst, n) ? w : worst;
        }
        return worst;
    }

    public int unsafe(int axis, int n) {
        if (!isAxis(axis) || n < 1 || n > 100) {
            return NONE;
        }
        int count = 0;
        for (int w = 1; w <= told.axes.get(axis)[0]; w++) {
            count += bandsOf(axis, w) == 0 && shakeOf(axis, w, n) >= 1024 ? 1 : 0;
        }
        return count;
    }

    // ---- coils

    /** The CURRENT behind a TICK (numbered from 0). */
    int coilBehind(int i, int goal, int tick, int m) {
        if (i < goal) {
            return i + (told.supply - i * told.loss / 100) / 10;
        }
        boolean fast = tick % 8 < m;
        return Math.max(0, fast ? i - (told.supply + i * told.loss / 100) / 10 : i - i * told.loss / 1000);
    }

    public int coil(int goal, int m, int n) {
        if (goal < 0 || goal > 2000 || m < 0 || m > 8 || n < 0 || n > 1000) {
            return NONE;
        }
        int i = 0;
        for (int t = 0; t < n; t++) {
            i = coilBehind(i, goal, t, m);
        }
        return i;
    }

    public int follows(int n, int m, int what) {
        if (n < 1 || n > 50 || m < 0 || m > 8) {
            return NONE;
        }
        int[] fixes = fixes();
        int[] answers = new int[3];
        int i = 0;
        for (int t = 0; t < 129 * n; t++) {
            int goal = sine(64 - Math.abs(64 - t / n), fixes);
            i = coilBehind(i, goal, t, m);
            answers[0] = Math.max(answers[0], Math.abs(i - goal));
            answers[1] += i > goal ? 1 : 0;
            answers[2] += Math.abs(i - goal);
        }
        return what < 0 || what > 2 ? NONE : answers[what];
    }

    public int ripple(int goal, int m) {
        if (goal < 0 || goal > 2000 || m < 0 || m > 8) {
            return NONE;
        }
        int least = Integer.MAX_VALUE;
        int greatest = Integer.MIN_VALUE;
        for (int n = 201; n <= 264; n++) {
            least = Math.min(least, coil(goal, m, n));
            greatest = Math.max(greatest, coil(goal, m, n));
        }
        return greatest - least;
    }

    public int mode(int n) {
        if (n < 1 || n > 50) {
            return NONE;
        }
        int best = 0;
        for (int m = 1; m <= 8; m++) {
            best = follows(n, m, 2) < follows(n, best, 2) ? m : best;
        }
        return best;
    }

    public int about(int what) {
        int corrections = 0;
        for (Integer fix : told.fixes) {
            corrections += fix == null ? 0 : 1;
        }
        boolean on = world.course != null;
        int[] answers = {told.axes.size(), told.bands.size(), corrections, told.supply, told.loss, world.ticks,
            on ? 1 : 0, on ? world.speedsLeft.size() : 0, undos.size(), tape.length, world.waits.size(),
            world.tripped, world.trippedBy};
        return what < 0 || what > 12 ? NONE : answers[what];
    }
}
