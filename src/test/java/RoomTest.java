import java.lang.management.ManagementFactory;

/** What a run of 512 calls makes stays far below the room that all calls of a run share. */
public final class RoomTest {
    private static final com.sun.management.ThreadMXBean THREADS =
            (com.sun.management.ThreadMXBean) ManagementFactory.getThreadMXBean();
    /** The room has 7.3 million fields and elements; at 4 bytes each a tenth of it is this. */
    private static final long TENTH = 7_300_000L * 4 / 10;

    private static int sum = 0;

    public static void main(String[] args) {
        for (int warming = 0; warming < 3; warming++) {
            acts();
            questions();
        }
        long start = made();
        acts();
        long behindActs = made();
        questions();
        long behindQuestions = made();
        for (int i = 0; i < 256; i++) {
            sum += new KiteMeet().row(5);
        }
        long behindObjects = made();
        Due.holds("512 acts make little: " + (behindActs - start), behindActs - start < TENTH);
        Due.holds("512 questions make little: " + (behindQuestions - behindActs),
                behindQuestions - behindActs < TENTH);
        Due.holds("256 objects with an act each: " + (behindObjects - behindQuestions),
                behindObjects - behindQuestions < 2 * TENTH);
        Due.holds("acts were done", sum != 0);
        Due.end();
    }

    private static long made() {
        return THREADS.getThreadAllocatedBytes(Thread.currentThread().getId());
    }

    private static void acts() {
        KiteMeet x = new KiteMeet();
        for (int i = 0; i < 128; i++) {
            sum += x.row(2 + i % 4) + x.walk(0, true) + x.wind(i % 4, i % 20, i % 8, i % 13);
            sum += i % 3 == 0 ? x.undo() : x.flyer(i % 4, i, 0, 5, 5, 12);
        }
    }

    private static void questions() {
        KiteMeet x = new KiteMeet();
        for (int i = 0; i < 8; i++) {
            x.flyer(i % 4, 5050 + i, 0, 5, 1, 12);
        }
        x.row(5);
        x.walk(3, true);
        x.walk(2, true);
        x.walk(1, true);
        x.sheet(0, 8, 25);
        for (int i = 0; i < 124; i++) {
            sum += x.best(0, 19) + x.fewest(2) + x.same(5, 0, 0) + x.meet(0, 7, 0);
        }
    }
}
