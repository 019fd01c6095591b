import java.lang.management.ManagementFactory;

/** All calls of a run live in one room, so what the dearest runs make is measured: garbage counts, too. */
public final class RoomTest {
    private static final long MOST_BYTES = 4_000_000;
    private static int wrong = 0;

    private static long allocated() {
        return ((com.sun.management.ThreadMXBean) ManagementFactory.getThreadMXBean()).getCurrentThreadAllocatedBytes();
    }

    /** All 30 slots hold every kind once, then the dearest makers go on until the 512th call. */
    private static void dearestRun() {
        SieveCabinet x = new SieveCabinet();
        x.span(0, 0, 2, 1000);
        x.span(1, 0, 1, 1000);
        int calls = 2;
        for (int i = 0; i < 30; i++, calls++) x.layered(0, 1, i);
        for (int i = 0; i < 30; i++, calls++) x.remove();
        for (int i = 0; calls + 9 <= 512; i++, calls += 9) {
            x.make(i % 3, 256, 8, i);
            x.putAll(x.sieves() - 1, 1);
            x.solve(1, i);
            x.falses(x.sieves() - 1, 1);
            x.fewest(0, 1, 4096, i);
            if (x.sieves() > 28) x.remove(); else x.fold(0);
        }
    }

    private static void measure(String what) {
        long before = allocated();
        dearestRun();
        long bytes = allocated() - before;
        if (bytes > MOST_BYTES) {
            wrong++;
            System.out.println(what + " made " + bytes + " bytes, due is at most " + MOST_BYTES);
        }
    }

    public static void main(String[] args) {
        measure("the first run");
        measure("the second run");
        System.out.println(wrong == 0 ? "the room is large enough" : "the room is too small");
        if (wrong != 0) System.exit(1);
    }
}
