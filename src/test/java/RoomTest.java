import com.sun.management.ThreadMXBean;
import java.lang.management.ManagementFactory;

/** Objects are made in constructors alone, so that a long run of the dearest calls stays within its room. */
public final class RoomTest {
    private static final ThreadMXBean THREADS = (ThreadMXBean) ManagementFactory.getThreadMXBean();
    private static final long BYTES_FOR_ALL_CALLS = 100_000;
    private static final long BYTES_FOR_ONE_OBJECT = 20_000;

    public static void main(String[] args) {
        Check check = new Check("RoomTest");
        allocatedByObjects(1);
        long perObject = allocatedByObjects(1000) / 1000;
        check.same("one object within " + BYTES_FOR_ONE_OBJECT + " bytes", perObject <= BYTES_FOR_ONE_OBJECT, true);
        long byCalls = allocatedByCalls();
        check.same("512 calls within " + BYTES_FOR_ALL_CALLS + " bytes", byCalls <= BYTES_FOR_ALL_CALLS, true);
        check.done();
    }

    private static long allocatedByObjects(int objects) {
        RungTouches[] made = new RungTouches[objects];
        long before = THREADS.getCurrentThreadAllocatedBytes();
        for (int i = 0; i < objects; i++) {
            made[i] = new RungTouches();
        }
        return THREADS.getCurrentThreadAllocatedBytes() - before;
    }

    private static long allocatedByCalls() {
        RungTouches desk = new RungTouches();
        long before = THREADS.getCurrentThreadAllocatedBytes();
        for (int round = 0; round < 32; round++) {
            callEverything(desk);
        }
        return THREADS.getCurrentThreadAllocatedBytes() - before;
    }

    private static void callEverything(RungTouches desk) {
        desk.bells(6);
        desk.notation(0, 3);
        desk.define(1);
        desk.callNotation(1, 9);
        desk.callNotation(2, 0);
        desk.search(30, 720, 2000);
        desk.search(31, 720, 2000);
        desk.count(30, 2000);
        desk.prove();
        desk.bell(30, 1);
        desk.rank(30);
        desk.unrank(719, 6);
        desk.course();
        desk.falseLeads(0, 719);
        desk.pattern(0, 1, 1);
        desk.music(0);
    }
}
