import com.sun.management.ThreadMXBean;
import java.lang.management.ManagementFactory;
import java.util.List;

/** The room of a run: 512 calls of any kind, and the object itself, take little beside what a run may take. */
public final class RoomTest {
    private static final int CALLS = 512;
    /** An answer that throws makes an exception, which the room counts, too. */
    private static final long MOST_BYTES_FOR_CALLS = 1_000_000;
    private static final long MOST_BYTES_FOR_OBJECT = 40_000;

    private static final ThreadMXBean THREADS = (ThreadMXBean) ManagementFactory.getThreadMXBean();

    public static void main(String[] args) {
        StatueChancery chancery = fullChancery();
        boolean fits = fitsObject();
        for (int round = 0; round < 2; round++) {
            // The first round makes the machine load what it needs.
            fits = fitsCalls(chancery);
        }
        if (!fits) {
            System.exit(1);
        }
    }

    private static boolean fitsObject() {
        new StatueChancery();
        long before = THREADS.getCurrentThreadAllocatedBytes();
        new StatueChancery();
        long bytes = THREADS.getCurrentThreadAllocatedBytes() - before;
        return fits("a new object", bytes, MOST_BYTES_FOR_OBJECT);
    }

    private static boolean fitsCalls(StatueChancery chancery) {
        long before = THREADS.getCurrentThreadAllocatedBytes();
        for (int call = 0; call < CALLS; call++) {
            chancery.isConsistent();
            chancery.setArrow(0, 1);
            chancery.nightsUntilHome(0);
            chancery.docketValue();
            chancery.docketValueBySets();
            chancery.fewestBlocks(60);
            chancery.fewestBlocksBySearch(60);
            chancery.renderStatue(0);
            chancery.renderWrit(7);
            chancery.type('p');
            chancery.type('a');
            chancery.type('y');
            chancery.type(' ');
            chancery.type('7');
            chancery.runScript();
            chancery.undo();
        }
        return fits("512 calls of each of the dearest kinds", THREADS.getCurrentThreadAllocatedBytes() - before,
                MOST_BYTES_FOR_CALLS);
    }

    private static boolean fits(String what, long bytes, long most) {
        if (bytes > most) {
            System.out.println(what + " took " + bytes + " bytes, more than " + most);
        }
        return bytes <= most;
    }

    private static StatueChancery fullChancery() {
        StatueChancery chancery = new StatueChancery();
        for (int pedestal = 0; pedestal < 8; pedestal++) {
            chancery.addPedestal();
        }
        for (int statue : List.of(0, 1, 2, 3, 4, 5)) {
            chancery.addStatue(statue, 9);
        }
        for (int writ = 0; writ < 8; writ++) {
            chancery.issueWrit(writ % 6, 20, 60);
        }
        for (int weight = 1; weight <= 20; weight++) {
            chancery.addBlocks(weight, 9);
        }
        return chancery;
    }
}
