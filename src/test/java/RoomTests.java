import java.lang.management.ManagementFactory;

/**
 * All calls of one run live in one room: some 600,000 objects and arrays, 7.3 million fields and elements in all. So the
 * bytes that an object and its 512 calls take are counted, whichever of the dear calls they are.
 */
final class RoomTests {
    /** 7.3 million elements of four bytes each. */
    private static final long ROOM = 29_200_000L;
    private static final com.sun.management.ThreadMXBean BEAN =
            (com.sun.management.ThreadMXBean) ManagementFactory.getThreadMXBean();

    private RoomTests() {
    }

    static void run() {
        String full = "ring 16 262; keep";
        for (String dear : new String[] {"digest", "now 6", "now 7", "rings 7", "isAlike 0", "isSound", "row 15",
            "mend 8 5 20", "back 0", "ring 16 262", "table 5 8 true", "wouldEdge 0 3"}) {
            fits(full, dear);
        }
        fits("ring 8 22; times 5 keep", "bestMarks");
        fits("ring 8 22; times 5 keep", "digest");
        fits("garden 16; aim 3 7", "grow 400");
        fits("garden 16; aim 3 7; grow 400", "digest");
        fits("garden 16; aim 3 7; grow 400", "ofKnot 3 5");
    }

    private static void fits(String ahead, String call) {
        // Once outside the count, so that the machine has loaded what it needs.
        taken(ahead, call, 2);
        // What the test itself takes for each call is what it takes for the cheapest one.
        long taken = taken(ahead, call, 500) - taken(ahead, "now 0", 500);
        Checks.that("room: 500 calls of " + call + " take " + taken + " bytes", taken < ROOM);
    }

    private static long taken(String ahead, String call, int times) {
        long before = BEAN.getCurrentThreadAllocatedBytes();
        Shortring x = new Shortring();
        Checks.same("room: " + ahead, Script.allOf(x, Script.callsOf(ahead)), "");
        for (int i = 0; i < times; i++) {
            Script.answer(x, call);
        }
        return BEAN.getCurrentThreadAllocatedBytes() - before;
    }
}
