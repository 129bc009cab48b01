import java.lang.management.ManagementFactory;

/** All calls of a run share one room: after the constructor no call may make objects, however often it is made. */
public final class RoomTest {
    private static final int WARM_UP = 20;
    private static final int ROUNDS = 300;
    /** For what the machine itself may make; the smallest array in each round would be 4800 bytes. */
    private static final long MOST_BYTES = 4096;

    public static void main(String[] args) {
        VisitorSteps x = new VisitorSteps(12, 12, 5);
        x.door(0, 0);
        for (int i = 0; i < 6; i++) {
            x.thing(2 * i, 11 - i, 50, 10);
        }
        for (int i = 0; i < 16; i++) {
            x.arrives(i, 0, i % 4);
        }
        x.run(60);
        for (int i = 0; i < 6; i++) {
            x.counted(i, 100);
        }
        long answers = bytes() > 0 ? 0 : 1;
        for (int i = 0; i < WARM_UP; i++) {
            answers += calls(x);
        }
        long before = bytes();
        for (int i = 0; i < ROUNDS; i++) {
            answers += calls(x);
        }
        long made = bytes() - before;
        System.out.println(ROUNDS + " rounds of the dearest calls made " + made + " bytes (answers " + answers + ")");
        if (made > MOST_BYTES) {
            System.exit(1);
        }
    }

    private static int calls(VisitorSteps x) {
        int answers = x.sum() + x.fit(1) + x.escape() + x.run(1);
        answers += (x.wall(11, 0, true) ? 1 : 0) + (x.wall(11, 0, false) ? 1 : 0);
        return answers + x.far(11, 11, 10) + x.about(0, 1) + x.at(0, 0) + x.count(5);
    }

    private static long bytes() {
        return ((com.sun.management.ThreadMXBean) ManagementFactory.getThreadMXBean()).getCurrentThreadAllocatedBytes();
    }
}
