import com.sun.management.ThreadMXBean;
import java.lang.management.ManagementFactory;

/** An object makes its rows when it is made; 512 calls, the dearest ones among them, make nothing more. */
public final class RoomTest {
    private static final int OBJECTS = 50;
    private static final int CALLS = 500;

    public static void main(String[] args) {
        ThreadMXBean threads = (ThreadMXBean) ManagementFactory.getThreadMXBean();
        // What the machine makes when it loads classes is not the object's.
        dearRun(new BalanceRounds(), 8);
        dearRun(new BalanceRounds(), 9);
        for (int areas : new int[] {8, 9, 30}) {
            BalanceRounds[] objects = new BalanceRounds[OBJECTS];
            long before = threads.getCurrentThreadAllocatedBytes();
            for (int i = 0; i < OBJECTS; i++) {
                objects[i] = new BalanceRounds();
            }
            long made = threads.getCurrentThreadAllocatedBytes() - before;
            Check.due("an object of less than 2000 bytes", made / OBJECTS < 2000, true);
            before = threads.getCurrentThreadAllocatedBytes();
            for (int i = 0; i < 3; i++) {
                dearRun(objects[i], areas);
            }
            long more = threads.getCurrentThreadAllocatedBytes() - before;
            Check.due("calls with " + areas + " areas make less than a byte each", more < 3 * CALLS, true);
        }
        Check.end();
    }

    private static void dearRun(BalanceRounds x, int areas) {
        for (int area = 1; area <= areas; area++) {
            x.area(1000 + area, 3);
        }
        for (int round = 0; round < 4; round++) {
            x.carrier(round, 1000000);
        }
        for (int call = areas + 4; call + 6 < CALLS; call += 7) {
            x.joined(1 + call % areas, 1 + call * 7 % areas, call % 3 == 0);
            x.solve(100000);
            x.faults();
            x.bound();
            x.tooLarge(0);
            x.together(0);
            x.round(1);
        }
    }
}
