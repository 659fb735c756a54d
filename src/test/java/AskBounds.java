/** The sentences that name a boundary case: promises 11 to 18, what is asked of the garden, and the bounds. */
final class AskBounds {
    private static final String INDEX = Sentence.INDEX;
    private static final String ARGUMENT = Sentence.ARGUMENT;
    private static final String FULL = "ring 16 262";
    private static final String HUNT = "ring 5 2; keep; garden 8; keep; knock; aim 3 5; grow 60";
    private static final String PETERSEN =
            "garden 10; edges 0-1 1-2 2-3 3-4 0-4 0-5 1-6 2-7 3-8 4-9 5-7 7-9 6-9 6-8 5-8";
    private static final String PATH = "ring 16 2; edge 0 15 false";
    private static final int[][] BOUNDS = {{3, 4, 5, 6, 7, 8}, {4, 6, 10, 14, 22, 30}, {5, 8, 17, 26, 53, 80},
        {6, 10, 26, 42, 106, 170}};

    private AskBounds() {
    }

    static void run() {
        nowArguments();
        edgesAndParts();
        least();
        even();
        width();
        colours();
        turns();
        keptAndLonely();
        ofKnotArguments();
        ofKnotAnswers();
        ofEdgeArguments();
        ofEdgeAnswers();
        far();
        ringsArguments();
        ringsAnswers();
        bound();
        ruledOutArguments();
        ruledOutByBounds();
        ruledOutByProofs();
        tableArguments();
        smallestCells();
        smallestKeepsTheSmallest();
        smallestBehindCalls();
        next();
    }

    // ---- promise 11

    private static void nowArguments() {
        for (String ahead : new String[] {"", "garden 3", FULL, HUNT}) {
            Sentence.of("11: if what is not 0 to 10").after(ahead)
                    .refused(ARGUMENT, "now -1", "now 11", "now 12", "now -10", "now MIN", "now MAX");
        }
        Sentence.of("11: 0 and 10 are taken").after(HUNT).due("now 0", 8).due("now 10", 1);
    }

    private static void edgesAndParts() {
        Sentence.of("11: how many EDGES").due("garden 3; now 1", 0).due("garden 3; edge 0 2 true; now 1", 1)
                .due("ring 3 2; now 1", 3).due(FULL + "; now 1", 40);
        Sentence.of("11: how many PARTS").due("garden 3; now 2", 3).due("garden 16; now 2", 16)
                .due("garden 16; edge 0 15 true; now 2", 15).due("ring 16 256; now 2", 8).due(PATH + "; now 2", 1)
                .due(PATH + "; edge 7 8 false; now 2", 2).due("ring 3 2; now 2", 1).due("ring 16 16; now 2", 4);
    }

    private static void least() {
        Sentence.of("11: LEAST is NONE without a RING").due("garden 3; now 3", -1).due("garden 3; edges 0-1 1-2; now 3", -1)
                .due(PATH + "; now 3", -1).due("ring 16 256; now 3", -1).due("garden 3; edge 0 1 true; now 3", -1);
        for (int knots = 3; knots <= 16; knots++) {
            Sentence.of("11: LEAST of one RING of " + knots).due("ring " + knots + " 2; now 3", knots);
        }
        Sentence.of("11: the least of two").after("garden 16; edges 0-1 1-2 2-3 3-0").due("edges 0-2; now 3", 3)
                .due("edges 4-5 5-6 6-7 7-8 8-4; now 3", 4).due("edges 13-14 14-15 13-15; now 3", 3)
                .due("edges 4-5 5-6 6-7 7-8 8-4; edge 0 1 false; now 3", 5);
    }

    private static void even() {
        Sentence.of("11: COUNT, as all KNOTS have the same").due("garden 3; now 4", 0).due("ring 4 4; now 4", 1)
                .due("ring 3 2; now 4", 2).due("ring 4 6; now 4", 3).due("ring 5 6; now 4", 4).due("ring 6 14; now 4", 5)
                .due(FULL + "; now 4", 5).due("garden 16; now 4", 0);
        Sentence.of("11: NONE, if it is not EVEN").due("garden 3; edge 0 1 true; now 4", -1)
                .due("garden 3; edge 1 2 true; now 4", -1).due(FULL + "; edge 14 15 false; now 4", -1)
                .due(PATH + "; now 4", -1).due("garden 16; edge 0 15 true; now 4", -1).due("garden 5; edges 0-1 2-3; now 4", -1);
        for (int knot = 0; knot < 16; knot++) {
            Sentence.of("11: NONE, as one KNOT alone has another COUNT").due(oneUnlike(knot) + "; now 4", -1)
                    .due(oneUnlike(knot) + "; now 9", 65535 - (1 << knot));
        }
        Sentence.of("11: NONE, as one KNOT of three has another COUNT").due("garden 3; edges 0-1 0-2; now 4", -1)
                .due("garden 3; edges 1-0 1-2; now 4", -1).due("garden 3; edges 2-0 2-1; now 4", -1);
    }

    /** 16 KNOTS with one EDGE each, but for one that has three. */
    private static String oneUnlike(int knot) {
        int[] others = new int[15];
        for (int i = 0; i < others.length; i++) {
            others[i] = (knot + 1 + i) % 16;
        }
        StringBuilder text = new StringBuilder("garden 16; edges");
        for (int i = 0; i < 3; i++) {
            text.append(' ').append(knot).append('-').append(others[i]);
        }
        for (int i = 3; i < others.length; i += 2) {
            text.append(' ').append(others[i]).append('-').append(others[i + 1]);
        }
        return text.toString();
    }

    private static void width() {
        Sentence.of("11: WIDTH is NONE with more than one PART").due("garden 3; now 5", -1)
                .due("garden 3; edge 0 1 true; now 5", -1).due("ring 16 16; now 5", -1)
                .due(PATH + "; edge 14 15 false; now 5", -1).due(PATH + "; edge 0 1 false; now 5", -1);
        Sentence.of("11: the greatest DISTANCE").due("ring 3 2; now 5", 1).due("ring 6 14; now 5", 1)
                .due("garden 3; edges 0-1 1-2; now 5", 2).due("ring 16 2; now 5", 8).due("ring 15 2; now 5", 7)
                .due(PATH + "; now 5", 15).due(PETERSEN + "; now 5", 2).due(FULL + "; now 5", 3)
                .due("garden 4; edges 1-0 0-2 2-3; now 5", 3);
    }

    private static void colours() {
        Sentence.of("11: COLOURS").due("garden 3; now 6", 1).due("garden 16; now 6", 1)
                .due("garden 16; edge 14 15 true; now 6", 2).due("ring 16 2; now 6", 2).due("ring 15 2; now 6", 3)
                .due("ring 4 6; now 6", 4).due("ring 5 6; now 6", 5).due("ring 6 14; now 6", 6)
                .due("ring 10 42; now 6", 2).due(PETERSEN + "; now 6", 3).due("ring 7 6; now 6", 4)
                .due("ring 6 14; edge 4 5 false; now 6", 5).due(FULL + "; now 6", 4);
        Sentence.of("11: COLOURS of a hub in a RING of 5, and of one of 4")
                .due("garden 6; edges 0-1 1-2 2-3 3-4 4-0 5-0 5-1 5-2 5-3 5-4; now 6", 4)
                .due("garden 5; edges 0-1 1-2 2-3 3-0 4-0 4-1 4-2 4-3; now 6", 3);
        Sentence.of("11: four COLOURS without a RING of 3")
                .after("garden 11; edges 0-1 1-2 2-3 3-4 0-4 5-1 5-4 6-0 6-2 7-1 7-3 8-2 8-4 9-3 9-0 10-5 10-6 10-7 10-8 10-9")
                .due("now 3", 4).due("now 6", 4).due("edge 10 9 false; now 6", 3);
        Sentence.of("11: three COLOURS, where the first number that fits would lead to four")
                .due("garden 6; edges 0-1 0-5 1-2 1-3 2-3 2-4 3-4 3-5 4-5; now 6", 3)
                .due("garden 6; edges 0-2 0-3 0-5 1-2 1-4 1-5 2-4 3-4 3-5 4-5; now 6", 3)
                .due("garden 6; edges 0-1 0-2 0-5 1-3 1-4 2-5 3-4 3-5 4-5; now 6", 3)
                .due("garden 6; edges 0-2 0-4 1-3 1-4 1-5 2-3 2-4 2-5 3-5; now 6", 3)
                .due("garden 6; edges 0-2 0-4 1-2 1-3 1-5 2-4 3-4 3-5 4-5; now 6", 3)
                .due("garden 6; edges 0-1 0-2 1-2 1-4 1-5 2-3 3-4 3-5 4-5; now 6", 3)
                .due("garden 7; edges 0-2 0-4 0-5 1-2 1-6 2-3 2-6 3-4 3-5 4-5 4-6 5-6; now 6", 3)
                .due("garden 7; edges 0-3 0-6 1-3 1-4 1-5 2-3 2-4 2-6 4-5 4-6 5-6; now 6", 3);
        Sentence.of("11: the PART with the most COLOURS tells")
                .due("garden 8; edges 0-1 2-3 2-4 3-4; now 6", 3).due("garden 8; edges 0-1 0-2 1-2 3-4; now 6", 3)
                .due("garden 16; edges 12-13 12-14 12-15 13-14 13-15 14-15 0-1; now 6", 4);
    }

    private static void turns() {
        Sentence.of("11: TURNS, 1 at least").due("garden 6; edges 0-1 1-2 2-3 3-4 1-5 2-5; now 7", 1)
                .due("garden 7; edges 0-1 0-2 2-3 0-4 4-5 5-6; now 7", 1);
        Sentence.of("11: TURNS").due("garden 3; now 7", 6).due("garden 3; edge 0 1 true; now 7", 2)
                .due("ring 3 2; now 7", 6).due("ring 16 2; now 7", 32).due("ring 4 6; now 7", 24)
                .due("ring 6 10; now 7", 72).due(PETERSEN + "; now 7", 120).due(PATH + "; now 7", 2)
                .due("garden 7; edges 0-1 2-3 2-4 3-4 5-6; now 7", 48).due("ring 6 4; now 7", 72)
                .due("ring 8 4; now 7", 128).due("ring 10 4; now 7", 200);
        Sentence.of("11: below 1000 they are told as they are").due("ring 6 14; now 7", 720).due("garden 6; now 7", 720)
                .due("garden 9; edges 0-1 1-2 2-3 3-0; now 7", 960).due("garden 9; edges 5-6 6-7 7-8 8-5; now 7", 960);
        Sentence.of("11: 1000 at most").due("garden 7; now 7", 1000).due("garden 16; now 7", 1000)
                .due("ring 8 10; now 7", 1000).due("ring 10 42; now 7", 1000).due("ring 16 256; now 7", 1000)
                .due("garden 13; edges 0-3 0-4 0-5 1-3 1-4 1-5 2-3 2-4 2-5 6-7 7-8 8-9 9-10 10-11 11-12 12-6; now 7", 1000)
                .due("garden 8; edges 0-1 0-2 0-3 0-4 0-5; now 7", 240).due("ring 12 8; now 7", 1000);
    }

    private static void keptAndLonely() {
        Sentence.of("11: GARDENS that are KEPT").after("garden 3").due("now 8", 0).due("keep; now 8", 1)
                .due("times 5 keep; now 8", 5).due("times 5 keep; !keep; now 8", 5).due("times 5 keep; back 4; now 8", 5);
        Sentence.of("11: the set of KNOTS with the least COUNT").due("garden 3; now 9", 7).due("garden 16; now 9", 65535)
                .due(FULL + "; now 9", 65535).due(FULL + "; edge 0 15 false; now 9", 32769)
                .due("garden 16; edge 0 1 true; now 9", 65532).due("garden 16; edge 14 15 true; now 9", 16383)
                .due("ring 16 2; edge 0 2 true; now 9", 65530).due("garden 4; edges 0-1 0-2 0-3; now 9", 14)
                .due("garden 4; edges 3-0 3-1 0-1; now 9", 4);
        Sentence.of("11: how many were REFUSED").due("now 10", 0).due("knock; now 10", 1).due("times 3 knock; now 10", 3)
                .due("!garden 2; !grow 1; now 10", 0).due("knock; garden 3; aim 2 3; now 10", 1);
    }

    // ---- promise 12

    private static void ofKnotArguments() {
        for (String ahead : new String[] {"garden 8", "ring 8 2", HUNT}) {
            Sentence.of("12: if there is no such KNOT").after(ahead)
                    .refused(INDEX, "ofKnot 8 0", "ofKnot -1 0", "ofKnot 8 5", "ofKnot 16 1", "ofKnot MIN 0", "ofKnot MAX 5");
            Sentence.of("12: if what is not 0 to 5").after(ahead)
                    .refused(ARGUMENT, "ofKnot 0 -1", "ofKnot 0 6", "ofKnot 7 -1", "ofKnot 7 6", "ofKnot 0 MIN", "ofKnot 7 MAX");
            Sentence.of("12: no such KNOT is named ahead of what").after(ahead)
                    .refused(INDEX, "ofKnot 8 6", "ofKnot -1 -1", "ofKnot MAX MIN");
        }
        Sentence.of("12: no KNOT at all").refused(INDEX, "ofKnot 0 0", "ofKnot 0 6", "ofKnot -1 -1");
        Sentence.of("12: the last KNOT of 16").after(FULL).due("ofKnot 15 0", 5).due("ofKnot 15 1", 24707)
                .refused(INDEX, "ofKnot 16 0");
    }

    private static void ofKnotAnswers() {
        Sentence.of("12: COUNT, and the set of KNOTS that are NEAR").due("garden 3; ofKnot 2 0", 0)
                .due("garden 3; ofKnot 2 1", 0).due(FULL + "; ofKnot 0 0", 5).due(FULL + "; ofKnot 0 1", 49414)
                .due("garden 16; edge 0 15 true; ofKnot 0 1", 32768).due("garden 16; edge 0 15 true; ofKnot 15 1", 1);
        Sentence.of("12: PARTS are numbered from 0 by the smallest KNOT of each").after("garden 16; edges 0-15 2-1 14-3")
                .due("ofKnot 0 2", 0).due("ofKnot 15 2", 0).due("ofKnot 1 2", 1).due("ofKnot 2 2", 1)
                .due("ofKnot 3 2", 2).due("ofKnot 14 2", 2).due("ofKnot 4 2", 3).due("ofKnot 13 2", 12)
                .due("garden 16; ofKnot 15 2", 15).due(PATH + "; ofKnot 15 2", 0).due("ring 16 16; ofKnot 15 2", 3);
        Sentence.of("12: the least LENGTH of a RING with it (NONE)")
                .after("garden 12; edges 0-1 1-2 2-0 2-3 3-4 4-5 5-6 6-7 7-4 7-8")
                .due("ofKnot 0 3", 3).due("ofKnot 2 3", 3).due("ofKnot 3 3", -1).due("ofKnot 4 3", 4).due("ofKnot 6 3", 4)
                .due("ofKnot 8 3", -1).due("ofKnot 9 3", -1).due("edge 6 0 true; ofKnot 3 3", 6)
                .due("edge 1 3 true; ofKnot 0 3", 3).due("ring 16 2; ofKnot 15 3", 16).due(PATH + "; ofKnot 7 3", -1);
        Sentence.of("12: the greatest DISTANCE of it to a KNOT of its PART").due("garden 3; ofKnot 1 4", 0)
                .due(PATH + "; ofKnot 0 4", 15).due(PATH + "; ofKnot 15 4", 15).due(PATH + "; ofKnot 7 4", 8)
                .due(PATH + "; edge 7 8 false; ofKnot 0 4", 7).due(PATH + "; edge 7 8 false; ofKnot 15 4", 7)
                .due("ring 16 2; ofKnot 9 4", 8).due("ring 16 16; ofKnot 9 4", 2);
        Sentence.of("12: 0 without an AIM").due("garden 8; ofKnot 0 5", 0).due(HUNT + "; garden 8; ofKnot 0 5", 0)
                .due(HUNT + "; back 1; ofKnot 7 5", 0).due(HUNT + "; ofKnot 7 5", 6).due(HUNT + "; ofKnot 0 5", 0);
    }

    // ---- promise 13

    private static void ofEdgeArguments() {
        Sentence.of("13: if there is no such EDGE").after("ring 5 2")
                .refused(INDEX, "ofEdge 5 0", "ofEdge -1 0", "ofEdge 5 3", "ofEdge MIN 0", "ofEdge MAX 3")
                .due("ofEdge 4 0", 3).due("ofEdge 0 0", 0);
        Sentence.of("13: if what is not 0 to 3").after("ring 5 2")
                .refused(ARGUMENT, "ofEdge 0 -1", "ofEdge 0 4", "ofEdge 4 -1", "ofEdge 4 4", "ofEdge 0 MIN", "ofEdge 4 MAX")
                .due("ofEdge 4 3", 5);
        Sentence.of("13: no such EDGE is named ahead of what").after("ring 5 2")
                .refused(INDEX, "ofEdge 5 4", "ofEdge -1 -1", "ofEdge MAX MIN");
        Sentence.of("13: no EDGE at all").after("garden 16").refused(INDEX, "ofEdge 0 0", "ofEdge 0 4", "ofEdge -1 0");
        Sentence.of("13: the last one of 40").after(FULL).due("ofEdge 39 0", 14).due("ofEdge 39 1", 15)
                .refused(INDEX, "ofEdge 40 0", "ofEdge 40 4");
    }

    private static void ofEdgeAnswers() {
        Sentence.of("13: numbered from 0 by their smaller KNOT, then by the greater one")
                .after("garden 16; edges 14-15 3-1 15-0 2-1 0-3")
                .due("ofEdge 0 0", 0).due("ofEdge 0 1", 3).due("ofEdge 1 0", 0).due("ofEdge 1 1", 15)
                .due("ofEdge 2 0", 1).due("ofEdge 2 1", 2).due("ofEdge 3 0", 1).due("ofEdge 3 1", 3)
                .due("ofEdge 4 0", 14).due("ofEdge 4 1", 15).refused(INDEX, "ofEdge 5 0")
                .due("edge 0 3 false; ofEdge 0 1", 15).due("edge 0 1 true; ofEdge 1 1", 3);
        Sentence.of("13: 1 if there would be a PART more without it").after("garden 8; edges 0-1 1-2 2-0 2-3 3-4 4-5 5-3 6-7")
                .due("ofEdge 0 2", 0).due("ofEdge 1 2", 0).due("ofEdge 2 2", 0).due("ofEdge 3 2", 1).due("ofEdge 4 2", 0)
                .due("ofEdge 6 2", 0).due("ofEdge 7 2", 1).due(PATH + "; ofEdge 0 2", 1).due("ring 16 2; ofEdge 0 2", 0);
        Sentence.of("13: the least LENGTH of a RING with it (NONE)").after("garden 8; edges 0-1 1-2 2-0 2-3 3-4 4-0 4-5 6-7")
                .due("ofEdge 0 3", 3).due("ofEdge 1 3", 3).due("ofEdge 2 3", 4).due("ofEdge 3 3", 3).due("ofEdge 4 3", 4)
                .due("ofEdge 5 3", 4).due("ofEdge 6 3", -1).due("ofEdge 7 3", -1).due("ring 16 2; ofEdge 15 3", 16)
                .due("ring 16 2; ofEdge 1 3", 16).due(PATH + "; ofEdge 14 3", -1);
    }

    // ---- promise 14

    private static void far() {
        Sentence.of("14: if there is no such KNOT, of both").after(PATH)
                .refused(INDEX, "far 16 0", "far 0 16", "far -1 0", "far 0 -1", "far 16 16", "far -1 -1", "far MIN 0",
                        "far 0 MAX").due("far 15 0", 15).due("far 0 15", 15);
        Sentence.of("14: 0, if they are the same").due("garden 3; far 0 0", 0).due("garden 3; far 2 2", 0)
                .due(FULL + "; far 15 15", 0).refused(INDEX, "far 0 0", "garden 3; far 3 3");
        Sentence.of("14: NONE").due("garden 3; far 0 2", -1).due(PATH + "; edge 7 8 false; far 7 8", -1)
                .due("ring 16 16; far 0 1", -1).due("ring 16 16; far 0 12", 1);
        Sentence.of("14: the fewest EDGES").due("ring 16 2; far 0 8", 8).due("ring 16 2; far 0 9", 7)
                .due("ring 3 2; far 2 0", 1).due(PATH + "; edge 0 14 true; far 0 15", 2).due(PATH + "; far 3 4", 1);
    }

    // ---- promise 15

    private static void ringsArguments() {
        for (String ahead : new String[] {"", "garden 3", FULL, HUNT}) {
            Sentence.of("15: if length is not 3 to 7").after(ahead)
                    .refused(ARGUMENT, "rings 2", "rings 8", "rings 0", "rings 1", "rings -3", "rings MIN", "rings MAX");
        }
        Sentence.of("15: 3 and 7 are taken").due("ring 3 2; rings 3", 1).due("ring 7 2; rings 7", 1)
                .due("garden 3; rings 3", 0).due("garden 3; rings 7", 0);
    }

    private static void ringsAnswers() {
        for (int knots = 3; knots <= 8; knots++) {
            for (int length = 3; length <= 7; length++) {
                Sentence.of("15: one RING").due("ring " + knots + " 2; rings " + length, knots == length ? 1 : 0);
            }
        }
        Sentence.of("15: two RINGS with the same EDGES are the same").due("ring 4 6; rings 3", 4)
                .due("ring 6 14; rings 3", 20).due("ring 6 14; rings 6", 60).due("ring 6 14; rings 7", 0);
        Sentence.of("15: the same KNOTS, but other EDGES").due("ring 4 6; rings 4", 3).due("ring 5 6; rings 5", 12)
                .due("ring 6 14; rings 4", 45).due("ring 6 14; rings 5", 72);
        Sentence.of("15: all KNOTS unlike").after("garden 5; edges 0-1 1-2 2-0 2-3 3-4 4-2").due("rings 3", 2)
                .due("rings 4", 0).due("rings 5", 0).due("rings 6", 0).due("rings 7", 0);
        Sentence.of("15: no RING of two KNOTS").after("garden 3; edges 0-1 1-2").due("rings 3", 0).due("rings 4", 0);
        Sentence.of("15: with an EDGE in common").after("garden 4; edges 0-1 1-2 2-0 1-3 3-2").due("rings 3", 2)
                .due("rings 4", 1).due("rings 5", 0);
        Sentence.of("15: of even RINGS alone").due("ring 8 10; rings 4", 36).due("ring 8 10; rings 5", 0)
                .due("ring 8 10; rings 6", 96).due("ring 8 10; rings 7", 0).due(PETERSEN + "; rings 5", 12)
                .due(PETERSEN + "; rings 6", 10).due(PETERSEN + "; rings 7", 0);
    }

    // ---- promises 16, 17

    private static void bound() {
        for (String ahead : new String[] {"", FULL, HUNT}) {
            Sentence.of("16: if count is not 2 to 5").after(ahead)
                    .refused(ARGUMENT, "bound 1 3", "bound 6 3", "bound 0 8", "bound -2 3", "bound MIN 3", "bound MAX 8");
            Sentence.of("16: or length not 3 to 8").after(ahead)
                    .refused(ARGUMENT, "bound 2 2", "bound 5 9", "bound 2 0", "bound 5 -3", "bound 2 MIN", "bound 5 MAX");
        }
        for (int count = 2; count <= 5; count++) {
            for (int length = 3; length <= 8; length++) {
                Sentence.of("16: the BOUND, LENGTHS odd and even")
                        .due("bound " + count + " " + length, BOUNDS[count - 2][length - 3]);
            }
        }
    }

    private static void ruledOutArguments() {
        for (String ahead : new String[] {"", "garden 9; aim 4 4; grow 400"}) {
            Sentence.of("17: if knots is not 3 to 99").after(ahead)
                    .refused(ARGUMENT, "ruledOut 2 2 3", "ruledOut 100 2 3", "ruledOut 0 2 3", "ruledOut -3 2 3",
                            "ruledOut MIN 2 3", "ruledOut MAX 5 8").due("ruledOut 3 2 3", 0).due("ruledOut 99 2 3", 0);
            Sentence.of("17: count not 2 to 5").after(ahead)
                    .refused(ARGUMENT, "ruledOut 9 1 3", "ruledOut 9 6 3", "ruledOut 9 0 3", "ruledOut 9 -4 4",
                            "ruledOut 9 MIN 3", "ruledOut 9 MAX 4").due("ruledOut 9 2 3", 0).due("ruledOut 10 5 3", 0);
            Sentence.of("17: or length not 3 to 8").after(ahead)
                    .refused(ARGUMENT, "ruledOut 9 4 2", "ruledOut 9 4 9", "ruledOut 9 4 0", "ruledOut 9 4 -4",
                            "ruledOut 9 4 MIN", "ruledOut 9 4 MAX").due("ruledOut 9 4 3", 0).due("ruledOut 80 4 8", 0);
        }
    }

    /** Around each BOUND: odd is told first, then too few. */
    private static void ruledOutByBounds() {
        for (int kind = 0; kind < 24; kind++) {
            int count = 2 + kind / 6;
            int length = 3 + kind % 6;
            int bound = BOUNDS[kind / 6][kind % 6];
            for (int knots : new int[] {3, 4, bound - 2, bound - 1, bound, bound + 1, bound + 2, 98, 99}) {
                if (knots >= 3 && knots <= 99) {
                    int why = knots % 2 * (count % 2) == 1 ? 1 : knots < bound ? 2 : 0;
                    Sentence.of("17: the first one that holds")
                            .due("ruledOut " + knots + " " + count + " " + length, why);
                }
            }
        }
    }

    private static void ruledOutByProofs() {
        Sentence.of("17: 3, if the search has PROVED it for a LENGTH of g or less").after("garden 9; aim 4 4; grown")
                .due("ruledOut 9 4 4", 3).due("ruledOut 9 4 3", 0).due("ruledOut 9 2 4", 0).due("ruledOut 10 4 4", 0)
                .due("ruledOut 8 4 4", 0).due("ruledOut 9 4 5", 2).due("ruledOut 9 5 4", 1);
        Sentence.of("17: PROVED for a greater LENGTH alone").after("garden 9; aim 4 5; grown")
                .due("ruledOut 9 4 4", 0).due("ruledOut 9 4 5", 2).due("aim 4 4; grown; ruledOut 9 4 4", 3);
        Sentence.of("17: what is PROVED stays").after("garden 9; aim 4 4; grown")
                .due("aim 4 5; grown; ruledOut 9 4 4", 3).due("aim 4 8; grown; ruledOut 9 4 4", 3)
                .due("ring 8 2; doubled 0; ruledOut 9 4 4", 3).due("aim 4 3; grown; ruledOut 9 4 4", 3)
                .due("aim 4 3; grown; ruledOut 9 4 3", 0).due("keep; back 0; ruledOut 9 4 4", 3);
        Shortring fresh = new Shortring();
        Shortring proved = new Shortring();
        Script.allOf(proved, Script.callsOf("garden 9; aim 4 4; grown; garden 8; aim 5 4; grown; garden 4; aim 2 5; grown;"
                + "garden 5; aim 4 4; grown; garden 7; aim 5 3; grown; aim 3 4; grown; garden 6; aim 4 4; grown"));
        for (int knots = 3; knots <= 99; knots++) {
            for (int kind = 0; kind < 24; kind++) {
                boolean isIt = knots == 9 && kind == 13;
                Checks.same("17: PROVED for no others: " + knots + ", " + kind,
                        proved.ruledOut(knots, 2 + kind / 6, 3 + kind % 6),
                        isIt ? 3 : fresh.ruledOut(knots, 2 + kind / 6, 3 + kind % 6));
            }
        }
    }

    // ---- promise 18

    private static void tableArguments() {
        for (String ahead : new String[] {"", "ring 3 2", HUNT}) {
            Sentence.of("18: if count is not 2 to 5").after(ahead)
                    .refused(ARGUMENT, "table 1 3 true", "table 6 3 true", "table 1 3 false", "table 6 3 false",
                            "table 0 3 true", "table -2 3 false", "table MIN 3 true", "table MAX 8 false");
            Sentence.of("18: or length not 3 to 8").after(ahead)
                    .refused(ARGUMENT, "table 2 2 true", "table 5 9 true", "table 2 2 false", "table 5 9 false",
                            "table 2 0 true", "table 2 -3 false", "table 2 MIN true", "table 5 MAX false");
        }
    }

    private static void next() {
        for (String ahead : new String[] {"", "garden 9; aim 4 4; grown", "ring 16 2; ring 8 2", "garden 4; aim 2 5; grown"}) {
            Sentence least = Sentence.of("18: NEXT is the least number that is not RULED OUT").after(ahead);
            for (int kind = 0; kind < 24; kind++) {
                least.due("table " + (2 + kind / 6) + " " + (3 + kind % 6) + " true", BOUNDS[kind / 6][kind % 6]);
            }
        }
    }

    /** Which cells a garden fills: the sum of 2^cell for the cells by count, then length, that are not NONE. */
    private static int cells(String calls) {
        Shortring x = new Shortring();
        Checks.same("18: " + calls, Script.allOf(x, Script.callsOf(calls)), "");
        int set = 0;
        for (int kind = 0; kind < 24; kind++) {
            int smallest = x.table(2 + kind / 6, 3 + kind % 6, false);
            set |= smallest == -1 ? 0 : 1 << kind;
            Checks.that("18: SMALLEST of " + calls, smallest == -1 || smallest == x.now(0));
        }
        return set;
    }

    private static void smallestCells() {
        String heawood = "ring 14 2; edges 0-5 2-7 4-9 6-11 8-13 10-1 12-3";
        String[] gardens = {"ring 3 2", "ring 4 2", "ring 5 2", "ring 6 2", "ring 7 2", "ring 8 2",
            "ring 4 6", "ring 6 10", "garden 10; aim 3 5; grown", "garden 14; aim 3 6; grown", "", "",
            "ring 5 6", "ring 8 10", "", "", "", "", "ring 6 14", "ring 10 42"};
        for (int cell = 0; cell < gardens.length; cell++) {
            if (!gardens[cell].isEmpty()) {
                Checks.same("18: the cell of " + gardens[cell], cells(gardens[cell]), 1 << cell);
            }
        }
        Checks.same("18: the cell of 14 KNOTS by hand", cells(heawood), 1 << 9);
        for (String none : new String[] {"ring 9 2", "ring 16 2", "ring 4 4", "ring 16 256", "garden 3", "garden 16", PATH,
            "garden 3; edges 0-1 1-2", "garden 4; edges 0-1 1-2 2-3 3-1"}) {
            Checks.same("18: no cell of " + none, cells(none), 0);
        }
    }

    private static void smallestKeepsTheSmallest() {
        Sentence.of("18: NONE at first").due("table 2 3 false", -1).due("garden 3; table 2 3 false", -1);
        Sentence.of("18: the smallest one").after("ring 9 8").due("table 2 3 false", 9)
                .due("ring 6 4; table 2 3 false", 6).due("ring 6 4; ring 9 8; table 2 3 false", 6)
                .due("ring 6 4; ring 3 2; table 2 3 false", 3).due("ring 12 16; table 2 3 false", 9)
                .due("ring 3 2; garden 16; table 2 3 false", 3).due("ring 9 8; table 2 3 false", 9);
        Sentence.of("18: of that COUNT and that LEAST").after("ring 8 4").due("table 2 4 false", 8)
                .due("table 3 3 false", -1).due("table 2 3 false", -1).due("table 2 5 false", -1).due("table 3 4 false", -1)
                .due("table 5 8 false", -1);
        Sentence.of("18: of a COUNT of 5").after(FULL).due("table 5 3 false", 16).due("ring 6 14; table 5 3 false", 6)
                .due("ring 10 42; table 5 4 false", 10).due("table 5 4 false", -1).due("table 4 3 false", -1);
        Sentence.of("18: a LEAST of 8, and of 9").due("ring 8 2; table 2 8 false", 8).due("ring 9 2; table 2 8 false", -1)
                .due("ring 16 4; table 2 8 false", 16).due("ring 16 2; table 2 8 false", -1);
        Sentence.of("18: a COUNT of 1 and of 2").due("ring 4 4; table 2 3 false", -1).due("ring 4 4; table 2 4 false", -1);
    }

    private static void smallestBehindCalls() {
        Sentence.of("18: behind edge()").due("garden 4; edges 0-1 1-2 2-3 0-2; table 2 4 false", -1)
                .due("garden 4; edges 0-1 1-2 2-3 0-2 0-3; edge 0 2 false; table 2 4 false", 4)
                .due("garden 4; edges 0-1 1-2 2-3 0-2 0-3; edge 0 2 false; table 2 3 false", -1)
                .due("garden 4; edges 0-1 1-2 2-3 0-3; table 2 4 false", 4)
                .due("garden 4; edges 0-1 1-2 2-3 0-3 0-2; table 2 4 false", 4)
                .due("ring 4 6; edge 0 1 false; table 3 3 false", 4);
        Sentence.of("18: behind doubled(), not what it was ahead").due("ring 3 2; doubled 7; table 2 6 false", 6)
                .due("ring 3 2; doubled 0; table 2 3 false", 3).due("ring 4 2; doubled 1; table 2 8 false", 8)
                .due("ring 5 2; doubled 1; table 2 8 false", -1).due("ring 8 2; doubled 0; table 2 8 false", 8);
        Sentence.of("18: behind swap()").due("garden 7; edges 0-1 1-2 2-0 3-4 4-5 5-6 6-3; swap 0 3 false; table 2 7 false", 7)
                .due("garden 7; edges 0-1 1-2 2-0 3-4 4-5 5-6 6-3; swap 0 1 false; table 2 7 false", -1);
        Sentence.of("18: behind mend(), not between its rounds").due("ring 6 4; mend 4 0 1; table 2 6 false", 6)
                .due("ring 6 4; mend 4 0 20; table 2 6 false", 6).due("ring 8 4; mend 5 0 1; table 2 8 false", 8)
                .due("ring 12 16; mend 7 15 4; table 2 6 false", 12).due("ring 12 16; mend 7 15 20; now 3", 12)
                .due("ring 12 16; mend 7 15 20; table 2 6 false", -1);
        Sentence.of("18: behind grow()").due("garden 4; aim 2 4; grow 3; table 2 4 false", -1)
                .due("garden 4; aim 2 4; grow 4; table 2 4 false", 4).due("garden 4; aim 2 4; grow 5; table 2 4 false", 4)
                .due("garden 10; aim 3 5; grown; table 3 5 false", 10).due("garden 5; aim 2 5; grown; table 2 5 false", 5);
        Sentence.of("18: behind back() it stays").due("ring 5 2; keep; garden 3; back 0; table 2 5 false", 5);
    }
}
