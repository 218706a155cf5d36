import com.sun.management.ThreadMXBean;
import java.lang.management.ManagementFactory;

/** All calls of a run live in one room: an object is made once and small, and its calls make nothing. */
public final class RoomTest {
    private static final int OBJECTS = 200;
    /** Bytes; some 45 arrays and objects with some 1,400 numbers between them. */
    private static final int MOST_OF_AN_OBJECT = 12_000;
    /** Bytes for 200 dear calls together: the machine's own bookkeeping alone. */
    private static final int MOST_OF_CALLS = 20_000;

    private RoomTest() {
    }

    public static void main(String[] args) {
        Check check = new Check();
        ThreadMXBean threads = (ThreadMXBean) ManagementFactory.getThreadMXBean();
        ModuleRows[] made = new ModuleRows[OBJECTS];
        work(new ModuleRows());
        long start = threads.getCurrentThreadAllocatedBytes();
        for (int i = 0; i < OBJECTS; i++) {
            made[i] = new ModuleRows();
        }
        long behind = threads.getCurrentThreadAllocatedBytes();
        check.due("bytes of an object " + (behind - start) / OBJECTS, (behind - start) / OBJECTS <= MOST_OF_AN_OBJECT, true);
        Check.read(made[0], "modulo 30 3;module;row 6 10 15;module;row 2 4 8;equation 2 3 5 is 7;equation 4 6 10 is 3;");
        long before = threads.getCurrentThreadAllocatedBytes();
        for (int turn = 0; turn < 10; turn++) {
            work(made[0]);
        }
        long after = threads.getCurrentThreadAllocatedBytes();
        check.due("bytes of calls " + (after - before), after - before <= MOST_OF_CALLS, true);
        check.close("RoomTest");
    }

    private static void work(ModuleRows x) {
        x.drawn(60, 5);
        x.undo();
        x.come(0, 3, 4, 5);
        x.join(0, 1, true, 2);
        x.join(0, 1, false, 2);
        x.upright(2, 3);
        x.times(1, 6, true, 2);
        x.times(1, 6, false, 3);
        x.few(0);
        x.nought(0);
        x.lies(0, 1);
        x.solutions();
        x.solution();
        x.witness();
        x.kernel(3);
        x.sides(1);
        x.undo();
        x.image(0);
        x.restore(0);
        x.feed(1836016757, 1819222065, 840970811, 1836016757, 1818573682);
        x.end(0);
    }
}
