import java.util.List;

/**
 * What calls that change something must leave alone: the gardens that are kept, the table but for the cell of the garden
 * that comes of it, what is proved, and how many were refused; keep() and knock() the garden and the search, too.
 */
final class StayBounds {
    /** Two that knocked, three gardens kept, and four tabled. */
    private static final String RICH =
            "times 2 knock; ring 5 2; keep; ring 6 10; keep; ring 16 262; keep; ring 4 6; ring 8 2; ";
    private static final String[] SCENES = {"garden 8; aim 3 5; grow 60", "garden 8; aim 2 5; grown", "ring 8 4",
        "ring 7 2; aim 4 5; grow 9", "garden 4; aim 2 5; grown"};
    private static final String[] CALLS = {"garden 3", "garden 8", "garden 16", "edge 0 1 false", "edge 0 1 true",
        "edge 6 5 true", "edge 0 2 false", "ring 3 2", "ring 8 2", "ring 4 6", "doubled 0", "doubled 1", "swap 0 7 false",
        "swap 0 5 true", "swap 3 4 true", "swap 1 3 false", "swap 0 0 false", "swap 1 0 true", "mend 5 0 1", "mend 8 3 20",
        "mend 4 0 1", "aim 2 3", "aim 3 5", "aim 5 8", "grow 1", "grow 400", "back 0", "back 1", "back 2", "keep", "knock"};

    private StayBounds() {
    }

    static void run() {
        for (String scene : SCENES) {
            for (String call : CALLS) {
                one(RICH + scene, call);
            }
        }
        proved();
        aimGoesAlone();
    }

    private static Shortring made(String calls) {
        Shortring x = new Shortring();
        Checks.same("stays: " + calls, Script.allOf(x, Script.callsOf(calls)), "");
        return x;
    }

    private static void one(String ahead, String call) {
        Shortring x = made(ahead);
        if (Script.answer(x, call).startsWith("throws.")) {
            return;
        }
        String what = "stays behind " + call + " [" + ahead + "]";
        Shortring twin = made(ahead);
        boolean isKeep = call.equals("keep");
        boolean isKnock = call.equals("knock");
        Checks.same(what + ": how many are KEPT", x.now(8), isKeep ? 4 : 3);
        Checks.same(what + ": how many were REFUSED", x.now(10), isKnock ? 3 : 2);
        tableStays(what, x, twin);
        Checks.same(what + ": SMALLEST of RICH", x.table(2, 5, false) + " " + x.table(3, 4, false), "5 6");
        if (isKeep || isKnock || call.startsWith("swap") && Script.answer(made(ahead), call).equals("false")) {
            placeStays(what, x, twin);
        }
        for (int number = 0; number < twin.now(8); number++) {
            Checks.same(what + ": the KEPT one " + number, rowsBehind(x, number), rowsBehind(twin, number));
        }
        if (isKeep) {
            Checks.same(what + ": the one KEPT now", rowsBehind(x, x.now(8) - 1), rows(made(ahead)));
        }
    }

    /** Each SMALLEST, but for that of the garden that there is now, which is the lesser one. */
    private static void tableStays(String what, Shortring x, Shortring twin) {
        for (int kind = 0; kind < 24; kind++) {
            int count = 2 + kind / 6;
            int length = 3 + kind % 6;
            int due = twin.table(count, length, false);
            if (x.now(4) == count && x.now(3) == length) {
                due = due == -1 ? x.now(0) : Math.min(due, x.now(0));
            }
            Checks.same(what + ": SMALLEST " + count + " " + length, x.table(count, length, false), due);
            Checks.same(what + ": NEXT " + count + " " + length, x.table(count, length, true), twin.table(count, length, true));
        }
    }

    /** The garden and the search, now and as they go on. */
    private static void placeStays(String what, Shortring x, Shortring twin) {
        for (int steps : new int[] {1, 2, 40}) {
            Checks.same(what + ": the GARDEN", rows(x), rows(twin));
            for (int asked = 0; asked <= 7; asked++) {
                Checks.same(what + ": search " + asked, x.search(asked), twin.search(asked));
            }
            Checks.same(what + ": as it goes on", Checks.answer(() -> x.grow(steps)), Checks.answer(() -> twin.grow(steps)));
        }
    }

    private static String rows(Shortring x) {
        StringBuilder text = new StringBuilder();
        for (int knot = 0; knot < x.now(0); knot++) {
            text.append(x.row(knot)).append(' ');
        }
        return text.toString();
    }

    private static String rowsBehind(Shortring x, int kept) {
        x.back(kept);
        return rows(x);
    }

    /** Behind each of the calls, made one behind the other, and also where a new search finds or proves something. */
    private static void proved() {
        Shortring x = made("garden 9; times 3 keep; aim 4 4; grown");
        List<String> more = Script.callsOf("ring 8 2; doubled 0; ring 8 2; swap 0 4 false; mend 8 3 20; garden 9; aim 4 4; "
                + "grow 1; edge 0 1 false; edge 7 8 true; aim 4 3; grow 400; aim 4 8; grow 400; garden 8; aim 2 5; grow 400");
        for (String call : CALLS) {
            provedStays(x, call);
        }
        for (String call : more) {
            provedStays(x, call);
        }
    }

    private static void provedStays(Shortring x, String call) {
        Script.answer(x, call);
        Checks.same("what is PROVED stays behind " + call, x.ruledOut(9, 4, 4) + " " + x.isSound(), "3 true");
    }

    /** What an AIM had barred and put in is nothing to the next one, whichever call has ended it. */
    private static void aimGoesAlone() {
        String fresh = later("garden 8; aim 3 5");
        String ended = RICH + "garden 8; aim 3 5; grow 60; ";
        for (String call : CALLS) {
            if (!Script.answer(made(ended), call).startsWith("throws.")) {
                Checks.same("8: begins anew behind " + call, later(ended + call + "; garden 8; aim 3 5"), fresh);
                Checks.same("8: begins anew, the KNOTS kept, behind " + call,
                        later(ended + call + "; ring 8 2; aim 3 5"), fresh);
            }
        }
    }

    private static String later(String calls) {
        Shortring x = made(calls);
        StringBuilder text = new StringBuilder();
        for (int step = 0; step < 80; step++) {
            text.append(x.grow(1)).append(rows(x)).append(x.search(3)).append(x.search(6)).append(x.search(7)).append(' ');
        }
        return text.toString();
    }
}
