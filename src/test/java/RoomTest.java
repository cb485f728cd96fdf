import com.sun.management.ThreadMXBean;
import java.lang.management.ManagementFactory;

/** All calls of one run live in one room: an object is small, and no call makes another one. */
public final class RoomTest {
    private static final ThreadMXBean ROOM = (ThreadMXBean) ManagementFactory.getThreadMXBean();
    private static final String BENCH = "axis x speed 60 gain 30 jerk 3;axis y speed 9 gain 3 jerk 1;"
        + "axis z speed 33 gain 9 jerk 2;band x 9 12;motor y hold 300 mass 9 damp 7;fix 9 -40;coil supply 900 loss 9;";

    public static void main(String[] args) {
        long one = bytesOfNewObject();
        one = Math.min(one, bytesOfNewObject());
        Check.holds("a new object takes less than 32 KiB: " + one, one < 32768);
        MicroSteps x = new MicroSteps();
        // The first rounds load classes and compile; what a later one takes is the calls' own.
        long least = Long.MAX_VALUE;
        for (int round = 0; round < 5; round++) {
            long before = ROOM.getCurrentThreadAllocatedBytes();
            everyCall(x);
            least = Math.min(least, ROOM.getCurrentThreadAllocatedBytes() - before);
        }
        long feeding = feedingAlone(x);
        Check.holds("calls make nothing: " + least + " by " + feeding, least <= feeding + 256);
        Check.finish();
    }

    private static long bytesOfNewObject() {
        long before = ROOM.getCurrentThreadAllocatedBytes();
        MicroSteps x = new MicroSteps();
        long behind = ROOM.getCurrentThreadAllocatedBytes();
        Check.same("it lives", x.about(0), 0);
        return behind - before;
    }

    /** What the test itself makes to feed a text. */
    private static long feedingAlone(MicroSteps x) {
        long before = ROOM.getCurrentThreadAllocatedBytes();
        Check.feed(x, BENCH);
        return ROOM.getCurrentThreadAllocatedBytes() - before;
    }

    private static void everyCall(MicroSteps x) {
        Check.feed(x, BENCH);
        x.bench();
        x.go(9000, -500, 77);
        for (int i = 0; i < 20; i++) {
            x.load(0, i);
            x.watch(1, i);
            x.queue(i, i, i);
            x.run(3);
            x.undo();
            x.halt();
            x.run(400);
            x.trueUp();
            x.go(i, i, i);
            asks(x, i);
        }
    }

    private static void asks(MicroSteps x, int i) {
        int all = x.fault(0) + x.table(i, 1) + x.current(i, 0) + x.field(0) + x.mend(i) + x.tuned(2)
            + x.ramp(40, 9, 2, 2) + x.rampAt(40, 9, 2, 3) + x.path(3000, i, 9, 6) + x.pathAt(3000, i, 9, 1, 4)
            + x.stamp(3000, i, 9, 0, 44) + x.peak(3000, i, 9, 1) + x.needed(0, 3000, 90) + x.most(3000, i, 9, 1)
            + x.drives(3000, i, 9, 0, 3, 1) + x.quickest(0, 3000, 1) + x.axis(0, 3) + x.now(0, 3) + x.bands(0, 9)
            + x.stallIn(2) + x.calmIn() + x.carries(2, 9) + x.strain(2, 9) + x.swings(2, 90, 9) + x.settles(2, 90)
            + x.shake(2, 9, 9) + x.worst(2, 9) + x.unsafe(2, 9) + x.coil(900, 3, 99) + x.follows(9, 3, 2)
            + x.ripple(900, 3) + x.mode(3) + x.about(8);
        if (all == Integer.MIN_VALUE) {
            Check.same("asked", all, 0);
        }
    }
}
