/**
 * Motors that go by small steps: axes, ramps, moves, rotors and coils, all in
 * whole numbers. The document's promises are told at the public methods by
 * their numbers.
 */
public final class MicroSteps {
    /** There is none. */
    public static final int NONE = -1;

    private static final int CANT = Integer.MIN_VALUE;
    private static final int MOST_AXES = 3;
    private static final int MOST_BANDS = 6;
    private static final int MOST_WAITING = 8;
    private static final int MOST_ACTS = 10;
    private static final int TAPE_BYTES = 900;
    private static final int FARTHEST = 30000;
    private static final int TOP_SPEED = 60;
    private static final int MOST_GAIN = 30;
    private static final int MOST_JERK = 10;
    private static final int MOST_CORRECTION = 200;
    private static final int QUARTER = 64;
    private static final int FULL_CURRENT = 1000;
    private static final int COUNTS = 1000;
    private static final int FINE = 16;
    private static final int STALL_ANGLE = 1024;
    private static final int MOST_LOAD = 2000;
    private static final int MOST_AHEAD = 2000;
    private static final int MODES = 8;
    private static final int HIGHEST_GOAL = 2000;

    private final Tape tape;
    private final Reader reader;
    private final State state;
    private final State ahead;
    private final History history;
    private final Move asked;
    private final Ramp askedRamp;
    private final Rotor probe;
    private final Coil probeCoil;
    private final int[] goal;
    private final int[] tried;
    private Bench bench;
    private Bench spare;

    /** Promise 1. All rows are made here, so that no later call makes any. */
    public MicroSteps() {
        bench = new Bench();
        spare = new Bench();
        tape = new Tape();
        reader = new Reader(tape, spare);
        state = new State();
        ahead = new State();
        history = new History();
        asked = new Move();
        askedRamp = new Ramp();
        probe = new Rotor();
        probeCoil = new Coil();
        goal = new int[MOST_AXES];
        tried = new int[QUARTER + 1];
    }

    // ---- the bench

    /** Promise 2. */
    public int feed(int a, int b, int c, int d, int e) {
        if (tape.length + 20 > TAPE_BYTES) {
            return NONE;
        }
        tape.put(a);
        tape.put(b);
        tape.put(c);
        tape.put(d);
        tape.put(e);
        return tape.length;
    }

    /** Promise 3. */
    public int end(int n) {
        if (n < 0 || n > tape.length) {
            return NONE;
        }
        tape.length = n;
        return n;
    }

    /** Promise 4. */
    public int bench() {
        boolean fine = true;
        reader.start(spare);
        // No line is without a byte of its own, so there are no more lines than bytes.
        for (int line = 0; line < TAPE_BYTES && fine && reader.hasMore(); line++) {
            fine = reader.readLine();
        }
        tape.length = 0;
        if (!fine) {
            return NONE;
        }
        // The two change places, so that a bench with a FAULT never touches the one in use.
        Bench old = bench;
        bench = spare;
        spare = old;
        state.clear();
        history.kept = 0;
        return bench.axisCount;
    }

    /** Promise 5. */
    public int fault(int what) {
        switch (what) {
            case 0: return reader.fault;
            case 1: return reader.place;
            default: return NONE;
        }
    }

    // ---- the table

    /** Promise 6. */
    public int table(int q, int what) {
        if (!isWithin(q, 0, QUARTER)) {
            return CANT;
        }
        switch (what) {
            case 0: return bench.table.plain[q];
            case 1: return bench.table.fixed[q];
            default: return CANT;
        }
    }

    /** Promise 7. */
    public int current(int n, int coil) {
        switch (coil) {
            case 0: return Table.wave(bench.table.fixed, n + QUARTER);
            case 1: return Table.wave(bench.table.fixed, n);
            default: return CANT;
        }
    }

    /** Promise 8. */
    public int field(int what) {
        return Table.rootsOf(bench.table.fixed, what);
    }

    /** Promise 9. */
    public int mend(int q) {
        if (!isWithin(q, 0, QUARTER)) {
            return CANT;
        }
        return bench.table.bestAt(bench.table.fixed, q);
    }

    /** Promise 10. */
    public int tuned(int what) {
        if (!isWithin(what, 0, 2)) {
            return NONE;
        }
        Table table = bench.table;
        int others = 0;
        System.arraycopy(table.fixed, 0, tried, 0, tried.length);
        for (int q = 0; q <= QUARTER; q++) {
            tried[q] = table.plain[q] + table.bestAt(tried, q);
            if (tried[q] != table.fixed[q]) {
                others++;
            }
        }
        return what == 2 ? others : Table.rootsOf(tried, what);
    }

    // ---- ramps and moves, asked

    /** Promise 11. */
    public int ramp(int v, int a, int j, int what) {
        if (!askRamp(v, a, j)) {
            return NONE;
        }
        switch (what) {
            case 0: return askedRamp.ticks;
            case 1: return askedRamp.reached();
            case 2: return askedRamp.micros();
            default: return NONE;
        }
    }

    /** Promise 12. */
    public int rampAt(int v, int a, int j, int k) {
        if (!askRamp(v, a, j) || !isWithin(k, 1, askedRamp.ticks)) {
            return NONE;
        }
        return askedRamp.speedIn(k);
    }

    /** Promise 13. */
    public int path(int x, int y, int z, int what) {
        if (!askMove(x, y, z)) {
            return NONE;
        }
        switch (what) {
            case 0: return asked.ticks();
            case 1: return asked.lead;
            case 2: return asked.way;
            case 3: return asked.speed;
            case 4: return asked.ramp.reached();
            case 5: return asked.ramp.ticks;
            case 6: return asked.ticksInBands(bench);
            default: return NONE;
        }
    }

    /** Promise 14. */
    public int pathAt(int x, int y, int z, int axis, int k) {
        if (!isAxis(axis) || !askMove(x, y, z) || !isWithin(k, 0, asked.ticks())) {
            return CANT;
        }
        return asked.placeOf(axis, asked.goneBehind(k));
    }

    /** Promise 15. */
    public int stamp(int x, int y, int z, int axis, int k) {
        if (!isAxis(axis) || !askMove(x, y, z) || !isWithin(k, 1, asked.wayOf(axis))) {
            return NONE;
        }
        return asked.dueAt(asked.leadFor(axis, k));
    }

    /** Promise 16. */
    public int peak(int x, int y, int z, int what) {
        if (!isWithin(what, 0, 1) || !askMove(x, y, z)) {
            return NONE;
        }
        return asked.greatestChange(what == 1);
    }

    /** Promise 17. */
    public int needed(int axis, int way, int ticks) {
        if (!isAxis(axis) || !isWithin(way, 1, FARTHEST) || !isWithin(ticks, 1, 60000)) {
            return NONE;
        }
        int taken = asked.startAlone(bench, axis, way);
        for (int speed = 1; speed <= TOP_SPEED; speed++) {
            // A speed that can't be TOP leaves the TOP of the speed ahead of it.
            taken = asked.takeTop(bench, speed) ? asked.ticks() : taken;
            if (taken <= ticks) {
                return speed;
            }
        }
        return NONE;
    }

    /** Promise 18. */
    public int most(int x, int y, int z, int axis) {
        if (!isAxis(axis) || !askMove(x, y, z)) {
            return NONE;
        }
        int greatest = 0;
        int last = asked.from[axis];
        int ticks = asked.ticks();
        for (int k = 1; k <= ticks; k++) {
            int place = asked.placeOf(axis, asked.goneBehind(k));
            greatest = Math.max(greatest, Math.abs(place - last));
            last = place;
        }
        return greatest;
    }

    /** Promise 19. */
    public int drives(int x, int y, int z, int axis, int m, int what) {
        if (!isAxis(axis) || !isMode(m) || !isWithin(what, 0, 1) || !askMove(x, y, z)) {
            return NONE;
        }
        int greatest = 0;
        int all = 0;
        int ticks = asked.ticks();
        probeCoil.start(bench, m);
        for (int k = 1; k <= ticks; k++) {
            int place = asked.placeOf(axis, asked.goneBehind(k));
            int due = Math.abs(Table.wave(bench.table.fixed, place));
            probeCoil.step(due);
            int off = Math.abs(probeCoil.current - due);
            greatest = Math.max(greatest, off);
            all += off;
        }
        return what == 0 ? greatest : all;
    }

    /** Promise 20. */
    public int quickest(int axis, int way, int what) {
        if (!isAxis(axis) || !isWithin(way, 1, FARTHEST) || !isWithin(what, 0, 1)) {
            return NONE;
        }
        int best = NONE;
        int fewest = Integer.MAX_VALUE;
        int taken = asked.startAlone(bench, axis, way);
        for (int speed = 1; speed <= TOP_SPEED; speed++) {
            taken = asked.takeTop(bench, speed) ? asked.ticks() : taken;
            if (taken < fewest) {
                fewest = taken;
                best = speed;
            }
        }
        return what == 0 ? best : fewest;
    }

    // ---- acts

    /** Promise 21. */
    public int go(int x, int y, int z) {
        if (state.on || !askMove(x, y, z)) {
            return NONE;
        }
        history.keep(state);
        state.begin(goal, bench);
        return state.left;
    }

    /** Promise 22. */
    public int halt() {
        if (!state.on || state.halted) {
            return NONE;
        }
        Move move = state.move;
        askedRamp.build(state.latest, move.gain, move.jerk);
        if (askedRamp.micros() > move.way - state.done) {
            return NONE;
        }
        history.keep(state);
        state.haltBy(askedRamp);
        return askedRamp.ticks;
    }

    /** Promise 23. */
    public int run(int n) {
        if (!isWithin(n, 1, 500) || bench.axisCount == 0) {
            return NONE;
        }
        history.keep(state);
        for (int i = 0; i < n; i++) {
            state.tick(bench);
        }
        return state.microsLeft();
    }

    /** Promise 24. */
    public int queue(int x, int y, int z) {
        if (!state.on || state.waiting >= MOST_WAITING || !takeGoal(x, y, z)) {
            return NONE;
        }
        history.keep(state);
        state.addWaiting(goal);
        return state.waiting;
    }

    /** Promise 25. */
    public int watch(int axis, int limit) {
        if (!isAxis(axis) || !isWithin(limit, 0, 2048)) {
            return NONE;
        }
        int old = state.rotors[axis].limit;
        if (old == limit) {
            return NONE;
        }
        history.keep(state);
        state.rotors[axis].limit = limit;
        return old;
    }

    /** Promise 26. */
    public int load(int axis, int v) {
        if (!isAxis(axis) || !isWithin(v, -MOST_LOAD, MOST_LOAD)) {
            return CANT;
        }
        int old = state.rotors[axis].load;
        if (old == v) {
            return CANT;
        }
        history.keep(state);
        state.rotors[axis].load = v;
        return old;
    }

    /** Promise 27. */
    public int trueUp() {
        if (state.on) {
            return NONE;
        }
        int elsewhere = 0;
        boolean stalled = false;
        for (int a = 0; a < bench.axisCount; a++) {
            Rotor rotor = state.rotors[a];
            if (!isWithin(rotor.truePlace(), -FARTHEST, FARTHEST)) {
                return NONE;
            }
            if (rotor.truePlace() != rotor.at) {
                elsewhere++;
            }
            stalled = stalled || rotor.stalledIn > 0;
        }
        if (elsewhere == 0 && !stalled) {
            return NONE;
        }
        history.keep(state);
        for (int a = 0; a < bench.axisCount; a++) {
            state.rotors[a].at = state.rotors[a].truePlace();
            state.rotors[a].stalledIn = 0;
        }
        return elsewhere;
    }

    /** Promise 28. */
    public int undo() {
        if (history.kept == 0) {
            return NONE;
        }
        history.takeBack(state);
        return history.kept;
    }

    // ---- what there is

    /** Promise 29. */
    public int axis(int axis, int what) {
        if (!isAxis(axis)) {
            return CANT;
        }
        Axis told = bench.axes[axis];
        switch (what) {
            case 0: return told.speed;
            case 1: return told.gain;
            case 2: return told.jerk;
            case 3: return told.hold;
            case 4: return told.mass;
            case 5: return told.damp;
            case 6: return state.rotors[axis].load;
            case 7: return state.rotors[axis].limit;
            default: return CANT;
        }
    }

    /** Promise 30. */
    public int now(int axis, int what) {
        if (!isAxis(axis)) {
            return CANT;
        }
        Rotor rotor = state.rotors[axis];
        switch (what) {
            case 0: return rotor.at;
            case 1: return rotor.place;
            case 2: return rotor.swing;
            case 3: return rotor.angle();
            case 4: return rotor.stalledIn;
            case 5: return Math.floorDiv(rotor.angle() + 2048, 4096);
            default: return CANT;
        }
    }

    /** Promise 31. */
    public int bands(int axis, int speed) {
        if (!isAxis(axis) || !isWithin(speed, 1, TOP_SPEED)) {
            return NONE;
        }
        return bench.bandsOver(axis, speed);
    }

    // ---- what would be

    /** Promise 32. */
    public int stallIn(int axis) {
        if (!isAxis(axis)) {
            return NONE;
        }
        if (state.rotors[axis].stalledIn > 0) {
            return 0;
        }
        ahead.copyFrom(state);
        for (int t = 1; t <= MOST_AHEAD; t++) {
            ahead.tick(bench);
            if (ahead.rotors[axis].stalledIn > 0) {
                return t;
            }
        }
        return NONE;
    }

    /** Promise 33. */
    public int calmIn() {
        if (bench.axisCount == 0) {
            return NONE;
        }
        ahead.copyFrom(state);
        for (int t = 0; t <= MOST_AHEAD; t++) {
            if (ahead.isSteady(bench)) {
                return t;
            }
            ahead.tick(bench);
        }
        return NONE;
    }

    /** Promise 34. A greater load may hold where a lesser one stalls, so all are tried from the top. */
    public int carries(int axis, int n) {
        if (!isAxis(axis) || !isWithin(n, 1, 200) || state.rotors[axis].stalledIn > 0) {
            return NONE;
        }
        Rotor rotor = ahead.rotors[axis];
        for (int load = MOST_LOAD; load >= 0; load--) {
            ahead.copyFrom(state);
            rotor.load = load;
            for (int t = 0; t < n && rotor.stalledIn == 0; t++) {
                ahead.tick(bench);
            }
            if (rotor.stalledIn == 0) {
                return load;
            }
        }
        return NONE;
    }

    /** Promise 35. */
    public int strain(int axis, int n) {
        if (!isAxis(axis) || !isWithin(n, 1, 1000)) {
            return NONE;
        }
        int greatest = 0;
        ahead.copyFrom(state);
        for (int t = 0; t < n; t++) {
            ahead.tick(bench);
            greatest = Math.max(greatest, Math.abs(ahead.rotors[axis].angle()));
        }
        return greatest;
    }

    /** Promise 36. */
    public int swings(int axis, int a, int n) {
        if (!isAxis(axis) || !isLetGo(a) || !isWithin(n, 1, 500)) {
            return NONE;
        }
        int changes = 0;
        int sign = 0;
        probe.letGo(state.rotors[axis].load, a);
        for (int t = 0; t < n; t++) {
            probe.turn(bench.axes[axis], bench.table);
            int next = Integer.signum(probe.swing);
            if (next != sign) {
                changes++;
            }
            sign = next;
        }
        return changes;
    }

    /** Promise 37. */
    public int settles(int axis, int a) {
        if (!isAxis(axis) || !isLetGo(a)) {
            return NONE;
        }
        probe.letGo(state.rotors[axis].load, a);
        for (int t = 0; t <= MOST_AHEAD; t++) {
            if (probe.isCalm(bench.axes[axis], bench.table)) {
                return t;
            }
            probe.turn(bench.axes[axis], bench.table);
        }
        return NONE;
    }

    /** Promise 38. */
    public int shake(int axis, int w, int n) {
        if (!isAxis(axis) || !isWithin(w, 0, TOP_SPEED) || !isWithin(n, 1, 500)) {
            return NONE;
        }
        return shakeBy(axis, w, n);
    }

    /** Promise 39. */
    public int worst(int axis, int n) {
        if (!isAxis(axis) || !isWithin(n, 1, 100)) {
            return NONE;
        }
        int worstSpeed = NONE;
        int greatest = -1;
        for (int w = 1; w <= bench.axes[axis].speed; w++) {
            int angle = shakeBy(axis, w, n);
            if (angle > greatest) {
                greatest = angle;
                worstSpeed = w;
            }
        }
        return worstSpeed;
    }

    /** Promise 40. */
    public int unsafe(int axis, int n) {
        if (!isAxis(axis) || !isWithin(n, 1, 100)) {
            return NONE;
        }
        int count = 0;
        for (int w = 1; w <= bench.axes[axis].speed; w++) {
            if (bench.bandsOver(axis, w) == 0 && shakeBy(axis, w, n) >= STALL_ANGLE) {
                count++;
            }
        }
        return count;
    }

    // ---- coils

    /** Promise 41. */
    public int coil(int goal, int m, int n) {
        if (!isWithin(goal, 0, HIGHEST_GOAL) || !isMode(m) || !isWithin(n, 0, 1000)) {
            return NONE;
        }
        probeCoil.start(bench, m);
        for (int t = 0; t < n; t++) {
            probeCoil.step(goal);
        }
        return probeCoil.current;
    }

    /** Promise 42. */
    public int follows(int n, int m, int what) {
        if (!isWithin(n, 1, 50) || !isMode(m) || !isWithin(what, 0, 2)) {
            return NONE;
        }
        return offWhileFollowing(n, m, what);
    }

    /** Promise 43. */
    public int ripple(int goal, int m) {
        if (!isWithin(goal, 0, HIGHEST_GOAL) || !isMode(m)) {
            return NONE;
        }
        int least = Integer.MAX_VALUE;
        int greatest = 0;
        probeCoil.start(bench, m);
        for (int t = 1; t <= 264; t++) {
            probeCoil.step(goal);
            if (t > 200) {
                least = Math.min(least, probeCoil.current);
                greatest = Math.max(greatest, probeCoil.current);
            }
        }
        return greatest - least;
    }

    /** Promise 44. */
    public int mode(int n) {
        if (!isWithin(n, 1, 50)) {
            return NONE;
        }
        int best = 0;
        int least = Integer.MAX_VALUE;
        for (int m = 0; m <= MODES; m++) {
            int all = offWhileFollowing(n, m, 2);
            if (all < least) {
                least = all;
                best = m;
            }
        }
        return best;
    }

    /** Promise 45. */
    public int about(int what) {
        switch (what) {
            case 0: return bench.axisCount;
            case 1: return bench.bandCount;
            case 2: return bench.correctionCount;
            case 3: return bench.supply;
            case 4: return bench.loss;
            case 5: return state.ticks;
            case 6: return state.on ? 1 : 0;
            case 7: return state.left;
            case 8: return history.kept;
            case 9: return tape.length;
            case 10: return state.waiting;
            case 11: return state.trippedIn;
            case 12: return state.trippedBy;
            default: return NONE;
        }
    }

    // ---- what several calls share

    private static boolean isWithin(int n, int least, int most) {
        return n >= least && n <= most;
    }

    private static boolean isMode(int m) {
        return isWithin(m, 0, MODES);
    }

    private static boolean isLetGo(int angle) {
        return isWithin(angle, 1 - STALL_ANGLE, STALL_ANGLE - 1);
    }

    private boolean isAxis(int axis) {
        return axis >= 0 && axis < bench.axisCount;
    }

    private boolean askRamp(int v, int a, int j) {
        if (!isWithin(v, 0, TOP_SPEED) || !isWithin(a, 1, MOST_GAIN) || !isWithin(j, 1, MOST_JERK)) {
            return false;
        }
        askedRamp.build(v, a, j);
        return true;
    }

    private boolean askMove(int x, int y, int z) {
        return takeGoal(x, y, z) && asked.plan(state.rotors, goal, bench);
    }

    /** Places of axes that there are not may be any, so only the others are looked at. */
    private boolean takeGoal(int x, int y, int z) {
        goal[0] = x;
        goal[1] = y;
        goal[2] = z;
        for (int a = 0; a < bench.axisCount; a++) {
            if (!isWithin(goal[a], -FARTHEST, FARTHEST)) {
                return false;
            }
        }
        return true;
    }

    private int shakeBy(int axis, int w, int n) {
        int greatest = 0;
        probe.letGo(state.rotors[axis].load, 0);
        for (int t = 0; t < n; t++) {
            probe.at += w;
            probe.turn(bench.axes[axis], bench.table);
            greatest = Math.max(greatest, Math.abs(probe.angle()));
        }
        return greatest;
    }

    private int offWhileFollowing(int n, int m, int what) {
        int greatest = 0;
        int above = 0;
        int all = 0;
        probeCoil.start(bench, m);
        for (int i = 0; i <= 2 * QUARTER; i++) {
            int micro = i <= QUARTER ? i : 2 * QUARTER - i;
            int due = Table.wave(bench.table.fixed, micro);
            for (int t = 0; t < n; t++) {
                probeCoil.step(due);
                int off = probeCoil.current - due;
                above += off > 0 ? 1 : 0;
                greatest = Math.max(greatest, Math.abs(off));
                all += Math.abs(off);
            }
        }
        switch (what) {
            case 0: return greatest;
            case 1: return above;
            default: return all;
        }
    }

    // ---- the parts

    /** The bytes that came and were not read yet. */
    private static final class Tape {
        final byte[] bytes = new byte[TAPE_BYTES];
        int length;

        void put(int number) {
            for (int shift = 24; shift >= 0 && length < bytes.length; shift -= 8) {
                bytes[length] = (byte) (number >> shift);
                length++;
            }
        }

        /** NONE behind the end, so that a look ahead needs no test of its own. */
        int byteAt(int at) {
            return at >= 0 && at < length && at < bytes.length ? bytes[at] & 255 : NONE;
        }
    }

    /** The table of currents, without and with CORRECTIONS. */
    private static final class Table {
        final int[] plain = new int[QUARTER + 1];
        final int[] fixed = new int[QUARTER + 1];

        Table() {
            for (int q = 0; q <= QUARTER; q++) {
                long a = 90L * q;
                long product = a * (11520 - a);
                plain[q] = (int) (4000 * product / (165888000 - product));
                fixed[q] = plain[q];
            }
        }

        void clear() {
            System.arraycopy(plain, 0, fixed, 0, fixed.length);
        }

        /** Masks in place of a division, since they go downwards below 0 too. */
        static int wave(int[] row, int n) {
            int rest = n & 63;
            switch ((n >> 6) & 3) {
                case 0: return row[rest];
                case 1: return row[QUARTER - rest];
                case 2: return -row[rest];
                default: return -row[QUARTER - rest];
            }
        }

        static int rootAt(int[] row, int n) {
            int one = wave(row, n);
            int other = wave(row, n + QUARTER);
            return squareRoot(one * one + other * other);
        }

        /** Both currents stay below 1,448, so eleven bits are enough for the root. */
        static int squareRoot(int square) {
            int root = 0;
            for (int bit = 1024; bit > 0; bit >>= 1) {
                int next = root + bit;
                if (next * next <= square) {
                    root = next;
                }
            }
            return root;
        }

        static int rootsOf(int[] row, int what) {
            int least = Integer.MAX_VALUE;
            int greatest = 0;
            int first = 0;
            for (int n = 0; n < QUARTER; n++) {
                int root = rootAt(row, n);
                if (root < least) {
                    least = root;
                    first = n;
                }
                greatest = Math.max(greatest, root);
            }
            switch (what) {
                case 0: return least;
                case 1: return greatest;
                case 2: return first;
                default: return NONE;
            }
        }

        /** From the least size on and below 0 first, so that the first of like ones is the one. */
        int bestAt(int[] row, int q) {
            int kept = row[q];
            int best = 0;
            int nearest = Integer.MAX_VALUE;
            for (int i = 0; i <= 2 * MOST_CORRECTION && nearest > 0; i++) {
                int size = (i + 1) / 2;
                int correction = (i & 1) == 1 ? -size : size;
                row[q] = plain[q] + correction;
                int off = Math.abs(rootAt(row, q) - FULL_CURRENT);
                if (off < nearest) {
                    nearest = off;
                    best = correction;
                }
            }
            row[q] = kept;
            return best;
        }
    }

    /** What a bench tells of one axis and of its motor. */
    private static final class Axis {
        int name;
        int speed = 1;
        int gain = 1;
        int jerk = 1;
        int hold;
        int mass = 1;
        int damp;
        boolean motorTold;

        void clear(int newName) {
            name = newName;
            hold = 1000;
            mass = 40;
            damp = 20;
            motorTold = false;
        }
    }

    /** All that a bench tells. */
    private static final class Bench {
        final Axis[] axes = new Axis[MOST_AXES];
        final int[] bandAxis = new int[MOST_BANDS];
        final int[] bandFrom = new int[MOST_BANDS];
        final int[] bandTo = new int[MOST_BANDS];
        final Table table = new Table();
        final boolean[] isFixed = new boolean[QUARTER + 1];
        int axisCount;
        int bandCount;
        int correctionCount;
        int supply = 300;
        int loss = 5;
        boolean coilTold;

        Bench() {
            for (int a = 0; a < axes.length; a++) {
                axes[a] = new Axis();
            }
        }

        void clear() {
            table.clear();
            for (int q = 0; q < isFixed.length; q++) {
                isFixed[q] = false;
            }
            axisCount = 0;
            bandCount = 0;
            correctionCount = 0;
            supply = 300;
            loss = 5;
            coilTold = false;
        }

        int axisNamed(int name) {
            for (int a = 0; a < axisCount; a++) {
                if (axes[a].name == name) {
                    return a;
                }
            }
            return NONE;
        }

        int bandsOver(int axis, int speed) {
            int count = 0;
            for (int b = 0; b < bandCount; b++) {
                if (bandAxis[b] == axis && isWithin(speed, bandFrom[b], bandTo[b])) {
                    count++;
                }
            }
            return count;
        }
    }

    /** Reads a bench, token by token, and stops at its first FAULT. */
    private static final class Reader {
        static final int AT_END = 0;
        static final int WORD = 1;
        static final int NUMBER = 2;
        static final int MINUS = 3;
        static final int STOP = 4;
        static final int NO_TOKEN = 5;
        static final int LONGEST_WORD = 6;
        static final int LONGEST_NUMBER = 5;

        final Tape text;
        Bench into;
        int behind;
        int kind;
        int start;
        int value;
        int number;
        int fault;
        int place = NONE;

        Reader(Tape tape, Bench bench) {
            text = tape;
            into = bench;
        }

        void start(Bench bench) {
            into = bench;
            behind = 0;
            fault = 0;
            place = NONE;
            into.clear();
            step();
        }

        boolean hasMore() {
            return kind != AT_END;
        }

        boolean readLine() {
            if (isWord("axis")) {
                return readAxis();
            }
            if (isWord("motor")) {
                return readMotor();
            }
            if (isWord("band")) {
                return readBand();
            }
            if (isWord("fix")) {
                return readFix();
            }
            if (isWord("coil")) {
                return readCoil();
            }
            return refuse(2);
        }

        boolean readAxis() {
            if (into.axisCount >= MOST_AXES) {
                return refuse(5);
            }
            step();
            if (!isName()) {
                return refuse(2);
            }
            if (into.axisNamed(value) != NONE) {
                return refuse(3);
            }
            Axis axis = into.axes[into.axisCount];
            axis.clear(value);
            step();
            if (!takeWord("speed") || !takeNumber(1, TOP_SPEED)) {
                return false;
            }
            axis.speed = number;
            if (!takeWord("gain") || !takeNumber(1, MOST_GAIN)) {
                return false;
            }
            axis.gain = number;
            if (!takeWord("jerk") || !takeNumber(1, MOST_JERK)) {
                return false;
            }
            axis.jerk = number;
            into.axisCount++;
            return takeStop();
        }

        boolean readMotor() {
            step();
            int told = takeAxis(true);
            if (told == NONE) {
                return false;
            }
            Axis axis = into.axes[told];
            axis.motorTold = true;
            if (!takeWord("hold") || !takeNumber(1, 9999)) {
                return false;
            }
            axis.hold = number;
            if (!takeWord("mass") || !takeNumber(1, 999)) {
                return false;
            }
            axis.mass = number;
            if (!takeWord("damp") || !takeNumber(0, 90)) {
                return false;
            }
            axis.damp = number;
            return takeStop();
        }

        boolean readBand() {
            if (into.bandCount >= MOST_BANDS) {
                return refuse(5);
            }
            step();
            int told = takeAxis(false);
            if (told == NONE || !takeNumber(1, TOP_SPEED)) {
                return false;
            }
            int from = number;
            if (!takeNumber(from, TOP_SPEED)) {
                return false;
            }
            into.bandAxis[into.bandCount] = told;
            into.bandFrom[into.bandCount] = from;
            into.bandTo[into.bandCount] = number;
            into.bandCount++;
            return takeStop();
        }

        boolean readFix() {
            step();
            if (kind == NUMBER && value <= QUARTER && into.isFixed[value]) {
                return refuse(5);
            }
            if (!takeNumber(0, QUARTER)) {
                return false;
            }
            int q = number;
            boolean below = kind == MINUS;
            if (below) {
                step();
            }
            if (!takeNumber(0, MOST_CORRECTION)) {
                return false;
            }
            into.table.fixed[q] = into.table.plain[q] + (below ? -number : number);
            into.isFixed[q] = true;
            into.correctionCount++;
            return takeStop();
        }

        boolean readCoil() {
            if (into.coilTold) {
                return refuse(5);
            }
            into.coilTold = true;
            step();
            if (!takeWord("supply") || !takeNumber(1, 2000)) {
                return false;
            }
            into.supply = number;
            if (!takeWord("loss") || !takeNumber(1, 99)) {
                return false;
            }
            into.loss = number;
            return takeStop();
        }

        /** The number of the axis that is named; NONE behind a FAULT. */
        int takeAxis(boolean forMotor) {
            if (!isName()) {
                refuse(2);
                return NONE;
            }
            int told = into.axisNamed(value);
            if (told == NONE) {
                refuse(3);
                return NONE;
            }
            if (forMotor && into.axes[told].motorTold) {
                refuse(5);
                return NONE;
            }
            step();
            return told;
        }

        boolean takeWord(String word) {
            if (!isWord(word)) {
                return refuse(2);
            }
            step();
            return true;
        }

        boolean takeNumber(int least, int most) {
            if (kind != NUMBER) {
                return refuse(2);
            }
            if (!isWithin(value, least, most)) {
                return refuse(4);
            }
            number = value;
            step();
            return true;
        }

        boolean takeStop() {
            if (kind != STOP) {
                return refuse(2);
            }
            step();
            return true;
        }

        /** Where there is no TOKEN at all, that is the lesser FAULT of the place. */
        boolean refuse(int code) {
            fault = kind == NO_TOKEN ? 1 : code;
            place = start;
            return false;
        }

        boolean isWord(String word) {
            return kind == WORD && value == codeOf(word);
        }

        boolean isName() {
            return kind == WORD
                && !isWord("axis") && !isWord("motor") && !isWord("band") && !isWord("fix") && !isWord("coil")
                && !isWord("speed") && !isWord("gain") && !isWord("jerk")
                && !isWord("hold") && !isWord("mass") && !isWord("damp")
                && !isWord("supply") && !isWord("loss");
        }

        /** Six letters to the base 27 fit an int, so words are compared as numbers. */
        static int codeOf(String word) {
            int code = 0;
            for (int i = 0; i < word.length(); i++) {
                code = code * 27 + word.charAt(i) - 'a' + 1;
            }
            return code;
        }

        void step() {
            int at = behind;
            while (at < text.length && isBlank(text.byteAt(at))) {
                at++;
            }
            start = at;
            int sign = text.byteAt(at);
            if (sign == NONE) {
                kind = AT_END;
                behind = at;
            } else if (isLetter(sign)) {
                stepWord();
            } else if (isDigit(sign)) {
                stepNumber();
            } else {
                kind = sign == '-' ? MINUS : sign == ';' ? STOP : NO_TOKEN;
                behind = at + 1;
            }
        }

        void stepWord() {
            int at = start;
            value = 0;
            while (at < text.length && isLetter(text.byteAt(at))) {
                value = value * 27 + text.byteAt(at) - 'a' + 1;
                at++;
            }
            kind = at - start <= LONGEST_WORD ? WORD : NO_TOKEN;
            behind = at;
        }

        void stepNumber() {
            int at = start;
            value = 0;
            while (at < text.length && isDigit(text.byteAt(at))) {
                value = value * 10 + text.byteAt(at) - '0';
                at++;
            }
            boolean fits = at - start <= LONGEST_NUMBER && !isLetter(text.byteAt(at));
            kind = fits ? NUMBER : NO_TOKEN;
            behind = at;
        }

        static boolean isBlank(int sign) {
            return sign == 32 || sign == 10;
        }

        static boolean isLetter(int sign) {
            return sign >= 'a' && sign <= 'z';
        }

        static boolean isDigit(int sign) {
            return sign >= '0' && sign <= '9';
        }
    }

    /** A RAMP, kept as the MICROS that are gone behind each of its TICKS. */
    private static final class Ramp {
        final int[] gone = new int[TOP_SPEED + 1];
        int ticks;

        /** Each TICK has one more MICRO at least, so there are no more of them than the speed tells. */
        void build(int top, int gain, int jerk) {
            int speed = 0;
            int g = 0;
            ticks = 0;
            while (ticks < TOP_SPEED) {
                g = nextGain(top - speed, g, gain, jerk);
                if (g == 0) {
                    return;
                }
                speed += g;
                gone[ticks + 1] = gone[ticks] + speed;
                ticks++;
            }
        }

        /** Room must be left for the gain to fade to 0 by JERK; 0 where none is such. */
        static int nextGain(int room, int g, int gain, int jerk) {
            if (jerk < 1) {
                return 0;
            }
            for (int side = 1; side >= -1; side--) {
                int next = g + side * jerk;
                int terms = (next + jerk - 1) / jerk;
                int fade = terms * next - jerk * (terms * (terms - 1) / 2);
                if (next > 0 && next <= gain && fade <= room) {
                    return next;
                }
            }
            return 0;
        }

        int speedIn(int k) {
            return k >= 1 && k < gone.length ? gone[k] - gone[k - 1] : 0;
        }

        int reached() {
            return speedIn(ticks);
        }

        int micros() {
            return gone[ticks];
        }

        void copyFrom(Ramp other) {
            ticks = other.ticks;
            System.arraycopy(other.gone, 0, gone, 0, gone.length);
        }
    }

    /** A MOVE as it is planned; what has been gone of it is kept beside it. */
    private static final class Move {
        final int[] from = new int[MOST_AXES];
        final int[] by = new int[MOST_AXES];
        final Ramp ramp = new Ramp();
        int lead;
        int way;
        int speed;
        int gain;
        int jerk;
        int rest;
        int restTicks;

        /** False if nothing goes. */
        boolean plan(Rotor[] rotors, int[] to, Bench bench) {
            lead = 0;
            way = 0;
            for (int a = 0; a < MOST_AXES; a++) {
                from[a] = rotors[a].at;
                by[a] = a < bench.axisCount ? to[a] - from[a] : 0;
                if (wayOf(a) > way) {
                    way = wayOf(a);
                    lead = a;
                }
            }
            if (way == 0) {
                return false;
            }
            findLimits(bench);
            // The RAMP to 0 can always be, so the search ends there at the latest.
            for (int top = speed; top >= 0; top--) {
                if (takeTop(bench, top)) {
                    return true;
                }
            }
            return false;
        }

        /** A MOVE of one axis alone by no RAMP yet: how many TICKS it takes so. */
        int startAlone(Bench bench, int axis, int length) {
            lead = axis;
            way = length;
            gain = bench.axes[axis].gain;
            jerk = bench.axes[axis].jerk;
            takeTop(bench, 0);
            return ticks();
        }

        void findLimits(Bench bench) {
            speed = TOP_SPEED;
            gain = MOST_GAIN;
            jerk = MOST_JERK;
            for (int a = 0; a < bench.axisCount; a++) {
                int d = wayOf(a);
                if (d > 0) {
                    speed = Math.min(speed, bench.axes[a].speed * way / d);
                    gain = Math.min(gain, bench.axes[a].gain * way / d);
                    jerk = Math.min(jerk, bench.axes[a].jerk * way / d);
                }
            }
        }

        /** False if the RAMP to that speed can't be the MOVE's; what is told of the MOVE is void then. */
        boolean takeTop(Bench bench, int top) {
            ramp.build(top, gain, jerk);
            int reached = ramp.reached();
            if (2 * ramp.micros() > way || bench.bandsOver(lead, reached) > 0) {
                return false;
            }
            int pace = Math.max(1, reached);
            rest = way - 2 * ramp.micros();
            restTicks = (rest + pace - 1) / pace;
            return true;
        }

        int wayOf(int axis) {
            return Math.abs(by[axis]);
        }

        int ticks() {
            return 2 * ramp.ticks + restTicks;
        }

        int goneBehind(int k) {
            int ticks = ticks();
            int middle = k - ramp.ticks;
            if (k <= 0) {
                return 0;
            }
            if (k >= ticks) {
                return way;
            }
            if (middle <= 0) {
                return ramp.gone[k];
            }
            if (middle <= restTicks) {
                return ramp.micros() + (int) ((long) rest * middle / restTicks);
            }
            return way - ramp.gone[ticks - k];
        }

        int placeOf(int axis, int gone) {
            if (way < 1) {
                return from[axis];
            }
            int part = (int) ((2L * gone * wayOf(axis) + way) / (2L * way));
            return by[axis] < 0 ? from[axis] - part : from[axis] + part;
        }

        /** The least MICRO of the LEAD behind which the axis is gone by k. */
        int leadFor(int axis, int k) {
            long twice = 2L * wayOf(axis);
            return twice < 1 ? 0 : (int) (((2L * k - 1) * way + twice - 1) / twice);
        }

        int dueAt(int micro) {
            int low = 1;
            int high = ticks();
            // A MOVE has 60,000 TICKS at the most, so 16 halvings find the one.
            for (int i = 0; i < 16 && low < high; i++) {
                int middle = (low + high) / 2;
                if (goneBehind(middle) >= micro) {
                    high = middle;
                } else {
                    low = middle + 1;
                }
            }
            int before = goneBehind(low - 1);
            int inTick = Math.max(1, goneBehind(low) - before);
            return (low - 1) * COUNTS + (micro - before) * COUNTS / inTick;
        }

        int ticksInBands(Bench bench) {
            int count = 0;
            for (int k = 1; k <= ramp.ticks; k++) {
                count += bench.bandsOver(lead, ramp.speedIn(k)) > 0 ? 2 : 0;
            }
            if (restTicks < 1) {
                return count;
            }
            // The TICKS between the ramps have one of two speeds that lie side by side.
            int slow = rest / restTicks;
            int faster = rest - slow * restTicks;
            count += bench.bandsOver(lead, slow) > 0 ? restTicks - faster : 0;
            count += bench.bandsOver(lead, slow + 1) > 0 ? faster : 0;
            return count;
        }

        /** Of the speeds from TICK to TICK, or of those changes themselves. */
        int greatestChange(boolean ofChanges) {
            int greatest = 0;
            int gone = 0;
            int last = 0;
            int lastChange = 0;
            int ticks = ticks();
            for (int k = 1; k <= ticks + 1; k++) {
                int goneNow = goneBehind(k);
                int change = goneNow - gone - last;
                greatest = Math.max(greatest, Math.abs(ofChanges ? change - lastChange : change));
                last = goneNow - gone;
                gone = goneNow;
                lastChange = change;
            }
            return greatest;
        }

        void copyFrom(Move other) {
            System.arraycopy(other.from, 0, from, 0, from.length);
            System.arraycopy(other.by, 0, by, 0, by.length);
            ramp.copyFrom(other.ramp);
            lead = other.lead;
            way = other.way;
            speed = other.speed;
            gain = other.gain;
            jerk = other.jerk;
            rest = other.rest;
            restTicks = other.restTicks;
        }
    }

    /** An axis as it stands, and the rotor behind it. */
    private static final class Rotor {
        int at;
        int place;
        int swing;
        int load;
        int limit;
        int stalledIn;

        void clear() {
            letGo(0, 0);
            limit = 0;
            stalledIn = 0;
        }

        void letGo(int newLoad, int angle) {
            at = 0;
            place = -angle;
            swing = 0;
            load = newLoad;
        }

        int angle() {
            return FINE * at - place;
        }

        int truePlace() {
            return Math.floorDiv(place, FINE);
        }

        /** (PULL less LOAD) / MASS. */
        int push(Axis axis, Table table) {
            int pull = axis.hold * Table.wave(table.plain, angle() / FINE) / FULL_CURRENT;
            return axis.mass < 1 ? 0 : (pull - load) / axis.mass;
        }

        void turn(Axis axis, Table table) {
            int next = swing + push(axis, table);
            next -= next * axis.damp / 100;
            swing = Math.max(-2000, Math.min(2000, next));
            place += swing;
        }

        boolean isCalm(Axis axis, Table table) {
            return swing == 0 && push(axis, table) == 0;
        }

        boolean isOffBy(int angle) {
            return Math.abs(angle()) >= angle;
        }

        void copyFrom(Rotor other) {
            at = other.at;
            place = other.place;
            swing = other.swing;
            load = other.load;
            limit = other.limit;
            stalledIn = other.stalledIn;
        }
    }

    /** All that ACTS change. */
    private static final class State {
        final Rotor[] rotors = new Rotor[MOST_AXES];
        final Move move = new Move();
        final int[] waits = new int[MOST_AXES * MOST_WAITING];
        final int[] first = new int[MOST_AXES];
        int waiting;
        int ticks;
        int trippedIn;
        int trippedBy = NONE;
        boolean on;
        boolean halted;
        int left;
        int done;
        int latest;

        State() {
            for (int a = 0; a < rotors.length; a++) {
                rotors[a] = new Rotor();
            }
        }

        void clear() {
            for (int a = 0; a < rotors.length; a++) {
                rotors[a].clear();
            }
            ticks = 0;
            trippedIn = 0;
            trippedBy = NONE;
            stop();
        }

        /** No MOVE is on, and none waits. */
        void stop() {
            on = false;
            halted = false;
            left = 0;
            waiting = 0;
        }

        /** Does nothing if nothing goes. */
        void begin(int[] to, Bench bench) {
            if (move.plan(rotors, to, bench)) {
                on = true;
                halted = false;
                left = move.ticks();
                done = 0;
                latest = 0;
            }
        }

        /** The RAMP of the MOVE is of no use any more, so the one down takes its room. */
        void haltBy(Ramp down) {
            if (down.ticks == 0) {
                stop();
                return;
            }
            move.ramp.copyFrom(down);
            halted = true;
            left = down.ticks;
            waiting = 0;
        }

        void addWaiting(int[] to) {
            if (waiting < MOST_WAITING) {
                System.arraycopy(to, 0, waits, waiting * MOST_AXES, MOST_AXES);
                waiting++;
            }
        }

        void takeWaiting() {
            if (waiting > 0) {
                System.arraycopy(waits, 0, first, 0, MOST_AXES);
                System.arraycopy(waits, MOST_AXES, waits, 0, waits.length - MOST_AXES);
                waiting--;
            }
        }

        void tick(Bench bench) {
            ticks++;
            for (int i = 0; i < MOST_WAITING && !on && waiting > 0; i++) {
                takeWaiting();
                begin(first, bench);
            }
            if (on) {
                advance();
            }
            for (int a = 0; a < bench.axisCount; a++) {
                rotors[a].turn(bench.axes[a], bench.table);
                if (rotors[a].stalledIn == 0 && rotors[a].isOffBy(STALL_ANGLE)) {
                    rotors[a].stalledIn = ticks;
                }
            }
            if (on) {
                tripIfOver(bench.axisCount);
            }
        }

        void advance() {
            latest = halted ? move.ramp.speedIn(left) : move.goneBehind(move.ticks() - left + 1) - done;
            done += latest;
            left--;
            for (int a = 0; a < MOST_AXES; a++) {
                rotors[a].at = move.placeOf(a, done);
            }
            if (left <= 0) {
                on = false;
                halted = false;
            }
        }

        void tripIfOver(int axisCount) {
            for (int a = 0; a < axisCount; a++) {
                if (rotors[a].limit > 0 && rotors[a].isOffBy(rotors[a].limit)) {
                    trippedIn = ticks;
                    trippedBy = a;
                    stop();
                    return;
                }
            }
        }

        int microsLeft() {
            if (!on) {
                return 0;
            }
            return halted ? move.ramp.gone[left] : move.way - done;
        }

        boolean isSteady(Bench bench) {
            if (on || waiting > 0) {
                return false;
            }
            for (int a = 0; a < bench.axisCount; a++) {
                if (!rotors[a].isCalm(bench.axes[a], bench.table)) {
                    return false;
                }
            }
            return true;
        }

        void copyFrom(State other) {
            for (int a = 0; a < rotors.length; a++) {
                rotors[a].copyFrom(other.rotors[a]);
            }
            move.copyFrom(other.move);
            System.arraycopy(other.waits, 0, waits, 0, waits.length);
            waiting = other.waiting;
            ticks = other.ticks;
            trippedIn = other.trippedIn;
            trippedBy = other.trippedBy;
            on = other.on;
            halted = other.halted;
            left = other.left;
            done = other.done;
            latest = other.latest;
        }
    }

    /** How all was ahead of the latest ACTS, in a ring. */
    private static final class History {
        final State[] ring = new State[MOST_ACTS];
        int next;
        int kept;

        History() {
            for (int i = 0; i < ring.length; i++) {
                ring[i] = new State();
            }
        }

        void keep(State state) {
            ring[next].copyFrom(state);
            next = (next + 1) % MOST_ACTS;
            kept = Math.min(MOST_ACTS, kept + 1);
        }

        void takeBack(State state) {
            if (kept > 0) {
                next = (next + MOST_ACTS - 1) % MOST_ACTS;
                kept--;
                state.copyFrom(ring[next]);
            }
        }
    }

    /** A coil and its CURRENT. */
    private static final class Coil {
        int current;
        int phase;
        int fastTicks;
        int supply;
        int loss;

        void start(Bench bench, int mode) {
            current = 0;
            phase = 0;
            fastTicks = mode;
            supply = bench.supply;
            loss = bench.loss;
        }

        void step(int goal) {
            int lost = current * loss / 100;
            if (current < goal) {
                current += (supply - lost) / 10;
            } else {
                int fall = phase < fastTicks ? (supply + lost) / 10 : current * loss / 1000;
                current = Math.max(0, current - fall);
            }
            phase = (phase + 1) % 8;
        }
    }
}
