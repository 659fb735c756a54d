import java.lang.management.ManagementFactory;

/**
 * All calls of one run live in one room: of the calls only row() and keep() may make objects. The bytes that
 * this thread takes are counted, behind some rounds that let the machine load its classes.
 */
final class RoomTests {
    private static final com.sun.management.ThreadMXBean BEAN =
            (com.sun.management.ThreadMXBean) ManagementFactory.getThreadMXBean();

    private RoomTests() {
    }

    static void run() {
        Shortring[] all = new Shortring[40];
        for (int i = 0; i < all.length; i++) {
            all[i] = new Shortring();
        }
        long least = Long.MAX_VALUE;
        for (int i = 0; i < all.length; i++) {
            long before = BEAN.getCurrentThreadAllocatedBytes();
            calls(all[i]);
            least = Math.min(least, BEAN.getCurrentThreadAllocatedBytes() - before);
        }
        Checks.that("room: 50 calls made objects of " + least + " bytes", least < 1000);
        long before = BEAN.getCurrentThreadAllocatedBytes();
        Shortring one = new Shortring();
        long own = BEAN.getCurrentThreadAllocatedBytes() - before;
        Checks.that("room: a new object takes " + own + " bytes", own < 5000 && one.now(0) == 0);
    }

    private static void calls(Shortring x) {
        x.ring(16, 2 | 4 | 256);
        x.keep();
        x.digest();
        x.mend(8, 5, 20);
        x.isAlike(0);
        for (int i = 0; i < 10; i++) {
            x.now(i);
        }
        x.ring(8, 2 | 4);
        x.bestMarks();
        x.doubled(5);
        x.swap(0, 9, true);
        x.wouldEdge(3, 4);
        x.garden(16);
        x.aim(3, 6);
        for (int i = 0; i < 20; i++) {
            x.grow(400);
            x.search(7);
        }
        x.digest();
    }
}
