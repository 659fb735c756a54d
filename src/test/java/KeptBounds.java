/** The sentences that name a boundary case: promises 19 to 27, what is kept, compared, and told as a whole. */
final class KeptBounds {
    private static final String INDEX = Sentence.INDEX;
    private static final String ARGUMENT = Sentence.ARGUMENT;
    private static final String STATE = Sentence.STATE;
    private static final String FULL = "ring 16 262";
    private static final String HUNT = "ring 5 2; keep; garden 8; keep; knock; aim 3 5; grow 60";
    private static final String[] ASKS = {"now 0", "now 1", "now 2", "now 3", "now 4", "now 5", "now 6", "now 7", "now 8",
        "now 9", "now 10", "search 0", "search 2", "search 3", "search 4", "search 5", "search 6", "search 7",
        "ofKnot 0 0", "ofKnot 2 1", "ofKnot 2 2", "ofKnot 1 3", "ofKnot 0 4", "ofKnot 2 5", "ofEdge 0 0", "ofEdge 0 2",
        "ofEdge 0 3", "far 0 2", "rings 3", "rings 7", "bound 3 5", "ruledOut 9 4 4", "table 2 5 false", "table 3 5 true",
        "isAlike 0", "isAlike 1", "wouldEdge 0 2", "wouldEdge 0 1", "bestMarks", "row 0", "isSound", "digest"};

    private KeptBounds() {
    }

    static void run() {
        keepMany();
        keepCopies();
        backNumbers();
        backLays();
        isAlikeNumbers();
        alike();
        wouldEdgeArguments();
        wouldEdgeAnswers();
        bestMarksKnots();
        bestMarksAnswers();
        row();
        isSound();
        knock();
        digestOfNothing();
        digestByHand();
        asksChangeNothing();
        objectsStandAlone();
    }

    // ---- promise 19

    private static void keepMany() {
        Sentence.of("19: if there are no KNOTS").refused(STATE, "keep", "!garden 2; keep", "knock; keep")
                .due("garden 3; keep", 0);
        Sentence.of("19: its number among those that are KEPT").after("garden 3").due("keep", 0).due("keep; keep", 1)
                .due("times 4 keep; keep", 4).due("keep; garden 16; keep", 1).due("keep; back 0; keep", 1)
                .due("times 5 keep; now 8", 5);
        Sentence.of("19: or 5 are KEPT").after("garden 3; times 5 keep").refused(STATE, "keep", "garden 4; keep",
                "back 0; keep", "!keep; keep", "ring 5 2; keep").due("!keep; now 8", 5);
        Sentence.of("19: a throw leaves the AIM, and what is kept").after("ring 5 2; times 5 keep; aim 2 3; grow 2")
                .due("!keep; search 2", 2).due("!keep; back 4", 5).refused(STATE, "keep");
    }

    private static void keepCopies() {
        Sentence.of("19: KEEPS the GARDEN").after("ring 5 2; keep").due("edge 0 1 false; back 0", 5)
                .due("edge 0 1 false; isAlike 0", false).due("garden 3; back 0; now 0", 5).due("ring 16 2; back 0; row 4", "#..#o")
                .due("swap 0 3 true; back 0; row 0", "o#..#").due("doubled 1; back 0; now 0", 5)
                .due("aim 2 3; grow 2; back 0; now 1", 5).due("garden 16; keep; back 0; now 0", 5)
                .due("garden 16; keep; back 1; now 0", 16);
        Sentence.of("19: the AIM stays").after("garden 5; aim 2 3; grow 2; keep").due("search 0", 2).due("search 2", 2)
                .due("grow 1", 0).due("grow 1; back 0", 2).due("grow 1; search 4", 3);
    }

    // ---- promise 20

    private static void backNumbers() {
        Sentence.of("20: if there is none").refused(INDEX, "back 0", "back -1", "garden 3; back 0", "garden 3; back -1");
        Sentence.of("20: one is kept").after("ring 5 2; keep; garden 6; aim 2 3; grow 3").due("back 0", 5)
                .refused(INDEX, "back 1", "back -1", "back 4", "back 5", "back MIN", "back MAX")
                .due("!back 1; search 2", 3).due("!back -1; now 0", 6);
        Sentence.of("20: five are kept").after("ring 3 2; keep; ring 4 2; keep; ring 5 2; keep; ring 6 2; keep; ring 7 2; keep")
                .due("back 0", 3).due("back 1", 4).due("back 2", 5).due("back 3", 6).due("back 4", 7)
                .refused(INDEX, "back 5", "back -1", "back 6");
    }

    private static void backLays() {
        Sentence.of("20: how many EDGES it has").due("garden 3; keep; ring 3 2; back 0", 0).due(FULL + "; keep; garden 3; back 0", 40);
        Sentence.of("20: which stays so").after("ring 5 2; keep; garden 3; back 0").due("now 8", 1)
                .due("edge 0 1 false; back 0", 5).due("edge 0 1 false; now 1", 4).due("edge 0 2 true; isAlike 0", false)
                .due("isAlike 0", true).due("back 0; back 0", 5).due("aim 2 3; back 0; now 1", 5);
        Sentence.of("20: KNOTS that it has not are gone").after("garden 3; keep; " + FULL + "; back 0").due("now 0", 3)
                .due("now 1", 0).due("garden 16; now 1", 0).refused(INDEX, "row 3", "ofEdge 0 0");
        Sentence.of("20: the AIM is gone by back()").after(HUNT).due("back 1; search 0", -1).due("back 0; search 5", -1)
                .refused(STATE, "back 1; grow 1").due("!back 2; search 0", 3).due("!back 2; grow 1", 0);
    }

    // ---- promise 21

    private static void isAlikeNumbers() {
        Sentence.of("21: if there is none").refused(INDEX, "isAlike 0", "isAlike -1", "garden 3; isAlike 0");
        Sentence.of("21: one is kept").after("ring 5 2; keep").due("isAlike 0", true)
                .refused(INDEX, "isAlike 1", "isAlike -1", "isAlike 5", "isAlike MIN", "isAlike MAX");
        Sentence.of("21: five are kept").after("garden 3; times 5 keep").due("isAlike 0", true).due("isAlike 4", true)
                .refused(INDEX, "isAlike 5", "isAlike -1", "isAlike 6");
    }

    private static void alike() {
        Sentence.of("21: other KNOTS").after("garden 3; keep; garden 16; keep").due("garden 4; isAlike 0", false)
                .due("garden 15; isAlike 1", false).due("garden 3; isAlike 0", true).due("garden 16; isAlike 0", false);
        Sentence.of("21: other EDGES").after("ring 5 2; keep").due("edge 0 1 false; isAlike 0", false)
                .due("edge 0 2 true; isAlike 0", false).due("ring 5 4; isAlike 0", true);
        Sentence.of("21: the KNOTS numbered otherwise").after("garden 6; edges 0-1 1-2 2-3 3-4 1-5; keep")
                .due("garden 6; edges 5-4 4-3 3-2 2-1 4-0; isAlike 0", true)
                .due("garden 6; edges 0-1 1-2 2-3 3-4 2-5; isAlike 0", false)
                .due("garden 6; edges 3-0 0-5 5-1 1-4 5-2; isAlike 0", false)
                .due("garden 6; edges 3-0 0-5 5-1 1-4 1-2; isAlike 0", true);
        Sentence.of("21: the same COUNTS and PARTS").after("garden 8; edges 0-1 1-2 2-3 4-5 5-6 5-7; keep")
                .due("isAlike 0", true).due("garden 8; edges 7-6 6-5 5-4 0-1 0-2 0-3; isAlike 0", true)
                .due("garden 8; edges 0-1 0-2 0-3 4-5 4-6 4-7; isAlike 0", false)
                .due("garden 8; edges 0-1 1-2 2-3 4-5 5-6 6-7; isAlike 0", false);
        Sentence.of("21: the same COUNTS, other RINGS").after("ring 6 2; keep; ring 8 10; keep; ring 14 2; keep")
                .due("ring 6 4; isAlike 0", false).due("ring 8 4; isAlike 0", false)
                .due("garden 8; edges 0-4 0-5 0-6 0-7 1-4 1-5 1-6 1-7 2-4 2-5 2-6 2-7 3-4 3-5 3-6 3-7; isAlike 1", true)
                .due("ring 8 20; isAlike 1", false).due("ring 14 4; isAlike 2", false).due("ring 14 16; isAlike 2", false)
                .due("ring 14 8; isAlike 2", true).due("ring 14 32; isAlike 2", true);
        Sentence.of("21: PARTS of two kinds, each so often").after("garden 9; edges 0-1 1-2 2-0 3-4 5-6 7-8; keep")
                .due("garden 9; edges 0-8 1-7 2-6 3-4 4-5 5-3; isAlike 0", true)
                .due("garden 9; edges 0-8 1-7 7-2 3-4 4-5 5-3; isAlike 0", false);
        Sentence.of("21: nothing of the AIM").after("garden 5; keep; aim 2 3").due("isAlike 0", true)
                .due("grow 1; isAlike 0", false);
    }

    // ---- promise 22

    private static void wouldEdgeArguments() {
        Sentence.of("22: if there is no such KNOT, of both").after("ring 5 2")
                .refused(INDEX, "wouldEdge 5 0", "wouldEdge 0 5", "wouldEdge -1 0", "wouldEdge 0 -1", "wouldEdge MIN 0",
                        "wouldEdge 0 MAX").due("wouldEdge 4 0", 5).due("wouldEdge 0 4", 5);
        Sentence.of("22: if both are the same").after("ring 5 2").refused(ARGUMENT, "wouldEdge 0 0", "wouldEdge 4 4");
        Sentence.of("22: no such KNOT is named ahead of the same ones").after("ring 5 2")
                .refused(INDEX, "wouldEdge 5 5", "wouldEdge -1 -1", "wouldEdge MAX MAX");
        Sentence.of("22: no KNOT at all").refused(INDEX, "wouldEdge 0 0", "wouldEdge 0 1");
    }

    private static void wouldEdgeAnswers() {
        String path = "ring 16 2; edge 0 15 false";
        Sentence.of("22: LEAST, if they were NEAR, too (NONE)").after(path).due("wouldEdge 0 15", 16).due("wouldEdge 0 2", 3)
                .due("wouldEdge 0 1", -1).due("wouldEdge 15 14", -1).due("wouldEdge 14 0", 15)
                .due("edge 7 8 false; wouldEdge 7 8", -1).due("edge 7 8 false; wouldEdge 0 15", -1)
                .due("edge 7 8 false; wouldEdge 0 7", 8);
        Sentence.of("22: another RING is the least one").after("ring 5 2").due("wouldEdge 0 1", 5).due("wouldEdge 0 2", 3)
                .due("garden 8; edges 0-1 1-2 2-3 3-0 3-4 4-5 5-6; wouldEdge 0 6", 4)
                .due("garden 8; edges 0-1 1-2 2-3 3-0 3-4 4-5 5-6; wouldEdge 3 5", 3)
                .due("garden 8; edges 0-1 1-2 2-3 3-0 3-4 4-5 5-6; wouldEdge 3 6", 4)
                .due("garden 8; edges 0-1 1-2 2-3 3-0 3-4 4-5 5-6; wouldEdge 7 0", 4);
        Sentence.of("22: a COUNT above 5 would be").due(FULL + "; wouldEdge 0 3", 3).due("garden 7; edges 0-1 0-2 0-3 0-4 0-5; wouldEdge 0 6", -1)
                .due("garden 7; edges 0-1 0-2 0-3 0-4 0-5 5-6; wouldEdge 0 6", 3);
        Sentence.of("22: in a search it is only asked").after(HUNT).due("wouldEdge 2 3", 4).due("wouldEdge 6 7", -1);
    }

    // ---- promise 23

    private static void bestMarksKnots() {
        Sentence.of("23: if there are no KNOTS").refused(STATE, "bestMarks");
        Sentence.of("23: or more than 8").refused(STATE, "garden 9; bestMarks", "garden 16; bestMarks", "ring 9 2; bestMarks",
                "ring 8 2; doubled 0; bestMarks").due("garden 8; bestMarks", 0).due("garden 3; bestMarks", 0)
                .due("ring 8 2; bestMarks", 1).due("ring 3 2; bestMarks", 1);
    }

    private static void bestMarksAnswers() {
        Sentence.of("23: NONE counts as the greatest; of several the smallest number").due("garden 3; edge 0 1 true; bestMarks", 0)
                .due("garden 8; edges 0-1 1-2 2-3 3-4 4-5 5-6 6-7; bestMarks", 0).due("ring 5 2; bestMarks", 1)
                .due("ring 6 2; bestMarks", 1).due("ring 8 4; bestMarks", 5);
        // A triangle behind a way of four or five edges: only a mark on it makes one ring of 6.
        Sentence.of("23: of all sets of the first 6 EDGES").due("garden 8; edges 0-1 1-2 2-3 3-4 5-6 5-7 6-7; bestMarks", 16)
                .due("garden 8; edges 0-1 1-2 2-3 3-4 4-5 5-6 5-7 6-7; bestMarks", 32)
                .due("garden 8; edges 0-1 0-2 1-2 3-4 5-6 5-7 6-7; bestMarks", 17);
        Sentence.of("23: the seventh EDGE bears no MARK")
                .due("garden 8; edges 0-1 0-2 1-2 2-3 3-4 4-5 5-6 5-7 6-7; bestMarks", 0)
                .due("garden 8; edges 0-1 0-3 1-2 2-3 3-4 4-5 5-6 5-7 6-7; bestMarks", 0)
                .due("garden 8; edges 0-1 0-2 1-2 2-3 3-4 5-6 5-7 6-7; bestMarks", 33);
        Sentence.of("23: of 20 EDGES").due("ring 8 22; bestMarks", 0).due("ring 8 10; bestMarks", 0).due("ring 5 6; bestMarks", 0)
                .due("ring 4 6; bestMarks", 11);
        Sentence.of("23: nothing changes").after(HUNT).due("bestMarks; search 3", 3).due("bestMarks; now 0", 8);
    }

    // ---- promises 24 to 26

    private static void row() {
        Sentence.of("24: if there is no such KNOT").refused(INDEX, "row 0", "row -1", "garden 3; row 3", "garden 3; row -1",
                FULL + "; row 16", "garden 3; row MIN", "garden 3; row MAX").due("garden 3; row 0", "o..").due("garden 3; row 2", "..o");
        Sentence.of("24: \"#\", if they are NEAR, \"o\" for itself, \".\" otherwise").due(FULL + "; row 0", "o##.....#.....##")
                .due(FULL + "; row 15", "##.....#.....##o").due("ring 6 14; row 3", "###o##").due("garden 16; row 8", "........o.......");
    }

    private static void isSound() {
        for (String calls : new String[] {"", "garden 3", FULL, HUNT, "garden 4; aim 2 5; grown", "garden 4; aim 2 4; grown",
            "garden 9; aim 4 4; grown", "garden 9; aim 4 4; grown; ring 9 6", "ring 3 2; ring 16 2; times 5 keep",
            "garden 5; aim 3 3", "garden 5; aim 3 3; grown", "garden 6; aim 5 3; grown", "ring 8 2; aim 2 3; grow 3"}) {
            Sentence.of("25: all is SOUND").after(calls).due("isSound", true);
        }
    }

    private static void knock() {
        Sentence.of("26: how many were REFUSED ever, with this").due("knock", 1).due("knock; knock", 2).due("times 9 knock; knock", 10)
                .due("knock; garden 3; knock", 2).due("knock; !garden 2; !grow 1; knock", 2).due("times 511 knock; now 10", 511)
                .due("times 511 knock; knock", 512);
        Sentence.of("26: nobody is let in").after(HUNT).due("knock; search 0", 3).due("knock; search 4", 60).due("knock; now 0", 8)
                .due("knock; now 8", 2).due("knock; now 10", 2);
    }

    // ---- promise 27

    private static long sumOf(long... numbers) {
        long sum = 9241;
        for (long number : numbers) {
            sum = sum * 31 + number;
        }
        return sum;
    }

    /** The 24 cells of the table: NONE, and the bound, but for some that are told as number, smallest. */
    private static long[] cells(int... told) {
        long[] cells = {-1, 3, -1, 4, -1, 5, -1, 6, -1, 7, -1, 8, -1, 4, -1, 6, -1, 10, -1, 14, -1, 22, -1, 30,
            -1, 5, -1, 8, -1, 17, -1, 26, -1, 53, -1, 80, -1, 6, -1, 10, -1, 26, -1, 42, -1, 106, -1, 170};
        for (int i = 0; i + 1 < told.length; i += 2) {
            cells[2 * told[i]] = told[i + 1];
        }
        return cells;
    }

    private static long[] joined(long[]... parts) {
        int length = 0;
        for (long[] part : parts) {
            length += part.length;
        }
        long[] all = new long[length];
        int at = 0;
        for (long[] part : parts) {
            System.arraycopy(part, 0, all, at, part.length);
            at += part.length;
        }
        return all;
    }

    private static void digestOfNothing() {
        long[] head = {0, 0, 0, -1, -1, -1, 0, 0, 0, 0, 0, -1, -1, -1, -1, -1, -1, -1, -1, 0, 0, 0, 0, 0};
        Sentence.of("27: of a new object, number by number").due("digest", sumOf(joined(head, cells(), new long[] {1})));
        head[10] = 2;
        Sentence.of("27: behind two knocks").due("knock; knock; digest", sumOf(joined(head, cells(), new long[] {1})));
    }

    private static void digestByHand() {
        long[] triangle = {3, 3, 1, 3, 2, 1, 3, 6, 2, 7, 0, -1, -1, -1, -1, -1, -1, -1, -1,
            2, 6, 0, 3, 1, 0, 2, 5, 0, 3, 1, 0, 2, 3, 0, 3, 1, 0,
            0, 1, 0, 3, 0, 2, 0, 3, 1, 2, 0, 3, 1, 0, 0, 0, 0};
        Sentence.of("27: of a RING of 3, two that are KEPT, one of them ALIKE")
                .due("garden 3; keep; ring 3 2; keep; digest", sumOf(joined(triangle, cells(0, 3), new long[] {0, 1, 1})));
        long[] search = {3, 2, 1, -1, -1, 2, 2, 2, 0, 6, 0, 2, 4, 2, 0, 2, 0, 1, -1,
            2, 6, 0, -1, 1, 0, 1, 1, 0, -1, 2, 0, 1, 1, 0, -1, 2, 0, 0, 1, 1, -1, 0, 2, 1, -1, 0, 0, 0, 0, 0};
        Sentence.of("27: in a search").due("garden 3; aim 2 4; grow 2; digest", sumOf(joined(search, cells(), new long[] {1})));
    }

    // ---- what stands for all

    private static void asksChangeNothing() {
        for (String ahead : new String[] {HUNT, "ring 5 2; keep; garden 6; keep; edges 0-1 1-2 2-3; knock",
            "garden 8; keep; garden 4; keep; aim 2 5; grown", "garden 8; keep; keep; garden 4; aim 2 4; grown"}) {
            for (String ask : ASKS) {
                String before = Script.answer(made(ahead), "digest");
                Shortring x = made(ahead);
                boolean isWrong = Script.answer(x, ask).startsWith("throws.");
                Sentence.of("what is asked changes nothing").after(ahead)
                        .due((isWrong ? "!" : "") + ask + "; digest", before);
                Checks.same("the same answer twice: " + ask, Script.answer(x, ask), Script.answer(x, ask));
                Twins.unchanged("what is asked changes nothing: " + ask, x, Script.callsOf(ahead));
            }
        }
    }

    private static Shortring made(String calls) {
        Shortring x = new Shortring();
        Script.allOf(x, Script.callsOf(calls));
        return x;
    }

    private static void objectsStandAlone() {
        Shortring one = made(HUNT);
        Shortring other = made("garden 9; aim 4 4; grown; " + FULL + "; times 5 keep; knock");
        Twins.unchanged("1: an object knows nothing of another one", one, Script.callsOf(HUNT));
        Checks.same("1: nor of what another one has proved", made("").ruledOut(9, 4, 4) + " " + other.ruledOut(9, 4, 4), "0 3");
    }
}
