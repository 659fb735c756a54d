/** The sentences that name a boundary case: promises 1 to 7, by which gardens are laid and changed. */
final class GardenBounds {
    private static final String INDEX = Sentence.INDEX;
    private static final String ARGUMENT = Sentence.ARGUMENT;
    private static final String STATE = Sentence.STATE;
    /** 40 edges, each knot with 5. */
    private static final String FULL = "ring 16 262";
    /** Knot 0 has all that it may have. */
    private static final String STAR = "garden 7; edges 0-1 0-2 0-3 0-4 0-5";
    /** In the midst of a search, with edges that are barred, two gardens kept, and one tabled. */
    private static final String HUNT = "ring 5 2; keep; garden 8; keep; knock; aim 3 5; grow 60";

    private GardenBounds() {
    }

    static void run() {
        newObject();
        gardenKnots();
        gardenLays();
        edgeRefused();
        edgeCounts();
        edgeAnswers();
        edgeAndAim();
        ringKnotsAndJumps();
        ringCounts();
        ringLays();
        doubledMarks();
        doubledKnots();
        doubledLays();
        swapNumbers();
        swapSameKnots();
        swapNearKnots();
        swapDone();
        mendArguments();
        mendEdges();
        mendRounds();
        mendShort();
    }

    // ---- promise 1

    private static void newObject() {
        Sentence.of("1: a place without a GARDEN")
                .due("now 0", 0).due("now 1", 0).due("now 2", 0).due("now 3", -1).due("now 4", -1).due("now 5", -1)
                .due("now 6", 0).due("now 7", 0).due("now 8", 0).due("now 9", 0).due("now 10", 0)
                .due("search 0", -1).due("search 1", -1).due("search 2", -1).due("search 3", -1)
                .due("search 4", -1).due("search 5", -1).due("search 6", -1).due("search 7", -1)
                .due("rings 3", 0).due("rings 7", 0).due("isSound", true).due("knock", 1).due("garden 3", 0);
        Sentence.of("1: it has no KNOT, no EDGE, nothing KEPT, no AIM")
                .refused(INDEX, "ofKnot 0 0", "ofEdge 0 0", "far 0 0", "row 0", "edge 0 1 true", "wouldEdge 0 1",
                        "swap 0 0 false", "swap 0 1 true", "back 0", "isAlike 0")
                .refused(STATE, "doubled 0", "mend 4 0 1", "aim 2 3", "grow 1", "keep", "bestMarks")
                .refused(ARGUMENT, "doubled 1");
        Sentence.of("1: SMALLEST is NONE at first, NEXT is the BOUND")
                .due("table 2 3 false", -1).due("table 5 8 false", -1)
                .due("table 2 3 true", 3).due("table 5 8 true", 170);
    }

    // ---- promise 2

    private static void gardenKnots() {
        for (String ahead : new String[] {"", FULL, HUNT}) {
            Sentence.of("2: if knots is not 3 to 16").after(ahead)
                    .refused(ARGUMENT, "garden 2", "garden 17", "garden 1", "garden 0", "garden -1", "garden -3",
                            "garden 32", "garden MIN", "garden MAX")
                    .due("garden 3; now 0", 3).due("garden 4; now 0", 4)
                    .due("garden 15; now 0", 15).due("garden 16; now 0", 16);
        }
        Sentence.of("2: how many there were ahead of that (0 at first)")
                .due("garden 3", 0).due("garden 16", 0).due("garden 3; garden 16", 3).due("garden 16; garden 3", 16)
                .due("garden 5; garden 5", 5).due("garden 5; !garden 17; garden 3", 5)
                .due("ring 8 2; doubled 0; garden 3", 16).due("ring 9 2; garden 4", 9)
                .due("garden 9; keep; garden 4; back 0; garden 3", 9).due("garden 6; aim 2 3; garden 4", 6);
        Sentence.of("1: KNOTS are numbered from 0").after("garden 3")
                .due("row 0", "o..").due("row 2", "..o").refused(INDEX, "row 3", "row -1", "row MIN", "row MAX")
                .due("garden 16; row 15", "...............o").due("garden 16; garden 15; row 14", "..............o")
                .refused(INDEX, "garden 16; row 16", "garden 16; garden 15; row 15");
    }

    private static void gardenLays() {
        Sentence.of("2: without EDGES").after(FULL)
                .due("garden 16; now 1", 0).due("garden 16; ofKnot 0 1", 0).due("garden 3; row 0", "o..")
                .due("garden 3; garden 16; now 1", 0).due("garden 16; garden 16; row 15", "...............o");
        Sentence.of("2: the AIM is gone").after(HUNT)
                .due("garden 8; search 0", -1).due("garden 8; search 3", -1).due("garden 8; ofKnot 0 5", 0)
                .refused(STATE, "garden 8; grow 1");
        Sentence.of("2: what is kept stays").after(HUNT)
                .due("garden 3; now 8", 2).due("garden 3; back 0", 5).due("garden 3; back 1; now 0", 8);
        Sentence.of("2: what is proved stays").after("garden 9; aim 4 4; grown")
                .due("garden 9; ruledOut 9 4 4", 3).due("garden 3; ruledOut 9 4 4", 3);
        Sentence.of("2: what is tabled stays").after(HUNT)
                .due("garden 3; table 2 5 false", 5).due("garden 16; table 2 5 false", 5);
    }

    // ---- promise 3

    private static void edgeRefused() {
        Sentence.of("3: if there is no such KNOT, of both").after("garden 7")
                .refused(INDEX, "edge 7 0 true", "edge 0 7 true", "edge -1 0 true", "edge 0 -1 true",
                        "edge 7 0 false", "edge 0 7 false", "edge -1 6 false", "edge 6 -1 false",
                        "edge MIN 0 true", "edge 0 MAX true", "edge 7 8 true")
                .due("edge 6 0 true", false).due("edge 0 6 true", false).due("edge 5 6 false", false);
        Sentence.of("3: no such KNOT, behind a greater GARDEN").after(FULL + "; garden 3")
                .refused(INDEX, "edge 0 3 true", "edge 15 0 false", "edge 3 3 true").due("edge 2 0 true", false);
        Sentence.of("3: if both are the same").after("garden 7")
                .refused(ARGUMENT, "edge 0 0 true", "edge 0 0 false", "edge 6 6 true", "edge 6 6 false");
        Sentence.of("3: no such KNOT is named ahead of the same ones").after("garden 7")
                .refused(INDEX, "edge 7 7 true", "edge -1 -1 false", "edge MAX MAX true");
        Sentence.of("3: no such KNOT is named ahead of a COUNT above 5").after(STAR)
                .refused(INDEX, "edge 0 7 true", "edge 7 0 true", "edge 0 -1 true");
        Sentence.of("3: the same ones are named ahead of a COUNT above 5").after(STAR)
                .refused(ARGUMENT, "edge 0 0 true");
    }

    private static void edgeCounts() {
        Sentence.of("3: a COUNT of 5 is taken").after("garden 7; edges 0-1 0-2 0-3 0-4")
                .due("edge 0 5 true", false).due("edge 5 0 true", false).due("edge 0 5 true; ofKnot 0 0", 5);
        Sentence.of("3: if one of both would have a COUNT above 5").after(STAR)
                .refused(STATE, "edge 0 6 true", "edge 6 0 true")
                .due("edge 1 6 true", false).due("!edge 0 6 true; edge 5 6 true", false);
        Sentence.of("3: if both would have a COUNT above 5").after(FULL)
                .refused(STATE, "edge 0 3 true", "edge 15 11 true");
        Sentence.of("3: no COUNT rises by an EDGE that is there").after(STAR)
                .due("edge 0 5 true", true).due("edge 5 0 true", true).due("edge 0 1 true; now 1", 5);
        Sentence.of("3: no COUNT rises by one that is taken out").after(STAR)
                .due("edge 0 6 false", false).due("edge 6 0 false", false).due("edge 0 5 false", true)
                .due("edge 0 5 false; edge 0 6 true", false).due("edge 5 0 false; edge 6 0 true; ofKnot 0 1", 94)
                .due("edge 0 5 false; edge 0 6 true; now 1", 5)
                .refused(STATE, "edge 0 5 false; edge 0 6 true; edge 0 5 true");
    }

    private static void edgeAnswers() {
        Sentence.of("3: whether they were").after("garden 3")
                .due("edge 0 1 true", false).due("edge 0 1 true; edge 1 0 true", true)
                .due("edge 0 1 false", false).due("edge 0 1 true; edge 1 0 false", true)
                .due("edge 0 1 true; edge 0 1 false; edge 0 1 true", false);
        Sentence.of("1: at most one EDGE of the same two").after("garden 3; edges 0-1 1-0 0-1")
                .due("now 1", 1).due("ofKnot 0 0", 1).due("edge 1 0 false; now 1", 0);
        Sentence.of("3: NEAR from both sides").after("garden 3; edge 2 0 true")
                .due("row 0", "o.#").due("row 2", "#.o").due("row 1", ".o.").due("edge 0 2 false; row 2", "..o");
    }

    private static void edgeAndAim() {
        Sentence.of("3: the AIM is gone by edge()").after("garden 7; aim 2 3; grow 1")
                .due("edge 2 3 true; search 0", -1).due("edge 0 1 true; search 0", -1)
                .due("edge 0 1 false; search 0", -1).due("edge 2 3 false; search 0", -1)
                .refused(STATE, "edge 2 3 false; grow 1").due("edge 2 3 true; now 1", 2);
        Sentence.of("3: a throw leaves the AIM").after("garden 7; aim 5 3; grow 5")
                .due("!edge 0 0 true; search 0", 5).due("!edge 0 7 true; search 2", 5)
                .due("!edge 0 6 true; search 4", 5).due("!edge 6 0 true; grow 1", 0);
    }

    // ---- promise 4

    private static void ringKnotsAndJumps() {
        for (String ahead : new String[] {"", FULL, HUNT}) {
            Sentence.of("4: if knots is not 3 to 16").after(ahead)
                    .refused(ARGUMENT, "ring 2 2", "ring 17 2", "ring 1 1", "ring 0 0", "ring -1 2", "ring -4 2",
                            "ring MIN 2", "ring MAX 2")
                    .due("ring 3 2", 3).due("ring 16 2", 16);
            Sentence.of("4: or jumps is empty").after(ahead).refused(ARGUMENT, "ring 3 0", "ring 16 0");
            Sentence.of("4: or no set of 1 to knots / 2").after(ahead)
                    .refused(ARGUMENT, "ring 8 1", "ring 8 3", "ring 16 513", "ring 8 -2", "ring 8 -1", "ring 16 MIN",
                            "ring 16 MAX", "ring 8 -2147483646", "ring 8 34");
        }
        for (int knots = 3; knots <= 16; knots++) {
            int most = knots / 2;
            Sentence.of("4: the greatest JUMP is knots / 2")
                    .due("ring " + knots + " " + (1 << most), knots % 2 == 0 ? most : knots)
                    .refused(ARGUMENT, "ring " + knots + " " + (2 << most), "ring " + knots + " " + (2 + (2 << most)));
        }
    }

    private static void ringCounts() {
        Sentence.of("4: a COUNT of 5 is taken")
                .due("ring 6 14", 15).due("ring 8 22", 20).due("ring 16 262", 40).due("ring 10 42", 25)
                .due("ring 10 42; now 4", 5);
        Sentence.of("4: or KNOTS would have a COUNT above 5").after(HUNT)
                .refused(ARGUMENT, "ring 7 14", "ring 8 14", "ring 15 14", "ring 16 14", "ring 16 270", "ring 16 510",
                        "ring 9 30");
        Sentence.of("4: two JUMPS of an odd number of KNOTS").due("ring 5 6", 10).due("ring 15 6; now 4", 4);
        Sentence.of("4: half around leads to one KNOT alone")
                .due("ring 4 4", 2).due("ring 4 4; now 4", 1).due("ring 16 256", 8).due("ring 16 258; now 4", 3)
                .due("ring 4 6", 6).due("ring 4 4; row 1", ".o.#").due("ring 16 256; row 15", ".......#.......o");
    }

    private static void ringLays() {
        Sentence.of("4: up or down, around").due("ring 5 2; row 0", "o#..#").due("ring 5 2; row 4", "#..#o")
                .due("ring 5 4; row 0", "o.##.").due("ring 7 4; row 6", ".#..#.o").due("ring 7 8; row 0", "o..##..")
                .due("ring 16 128; row 0", "o......#.#......");
        Sentence.of("4: the old GARDEN is gone").after(FULL)
                .due("ring 5 2; now 1", 5).due("ring 3 2; now 0", 3).due("ring 16 2; row 0", "o#.............#");
        Sentence.of("4: the AIM is gone by ring()").after(HUNT)
                .due("ring 8 2; search 0", -1).due("!ring 8 1; search 0", 3).due("!ring 2 2; search 2", 4)
                .due("ring 8 2; now 8", 2);
    }

    // ---- promise 5

    private static void doubledMarks() {
        Sentence.of("5: if marks is no set of EDGES that there are").after("ring 5 2")
                .due("doubled 0", 5).due("doubled 1", 10).due("doubled 16", 10).due("doubled 31", 10)
                .due("doubled 3", 5)
                .refused(ARGUMENT, "doubled 32", "doubled 33", "doubled -1", "doubled -32", "doubled MIN",
                        "doubled MAX", "doubled 1073741824");
        Sentence.of("5: no EDGES, no set but the empty one").after("garden 8")
                .due("doubled 0", -1).refused(ARGUMENT, "doubled 1", "doubled 2", "doubled -1", "doubled MIN");
        Sentence.of("5: one EDGE").after("garden 3; edge 1 2 true")
                .due("doubled 1", -1).due("doubled 1; row 1", ".o...#").due("doubled 1; row 4", "..#.o.")
                .refused(ARGUMENT, "doubled 2", "doubled 3");
        Sentence.of("5: the most EDGES of 8 KNOTS").after("ring 8 22")
                .due("doubled 1048575; now 1", 40).due("doubled 524288; now 1", 40).refused(ARGUMENT, "doubled 1048576");
        Sentence.of("5: 30 EDGES, but too many KNOTS").after("ring 15 6")
                .refused(STATE, "doubled 1073741823", "doubled 536870912").refused(ARGUMENT, "doubled 1073741824");
        Sentence.of("5: 31 EDGES and more: all of an int is a set").after("ring 15 6; edge 0 3 true")
                .refused(STATE, "doubled 1073741824", "doubled MAX").refused(ARGUMENT, "doubled MIN", "doubled -1");
        Sentence.of("5: 40 EDGES").after(FULL)
                .refused(STATE, "doubled MAX", "doubled 0").refused(ARGUMENT, "doubled MIN", "doubled -1");
    }

    private static void doubledKnots() {
        Sentence.of("5: if there are no KNOTS").refused(STATE, "doubled 0");
        Sentence.of("5: the MARKS are named ahead of no KNOTS").refused(ARGUMENT, "doubled 1", "doubled -1");
        Sentence.of("5: or more than 8").due("ring 3 2; doubled 0", 3).due("ring 8 2; doubled 0", 8)
                .due("ring 8 2; doubled 0; now 0", 16)
                .refused(STATE, "ring 9 2; doubled 0", "ring 16 2; doubled 0", "ring 8 2; doubled 0; doubled 0",
                        "garden 9; doubled 0", "garden 16; doubled 0");
        Sentence.of("5: the MARKS are named ahead of more than 8").after("ring 9 2")
                .refused(ARGUMENT, "doubled 512", "doubled -1").refused(STATE, "doubled 511", "doubled 1");
    }

    private static void doubledLays() {
        Sentence.of("5: a with b + n, and a + n with b; or a with b, and a + n with b + n")
                .after("garden 3; edges 0-1 1-2; doubled 1")
                .due("row 0", "o...#.").due("row 1", ".o##..").due("row 2", ".#o...")
                .due("row 3", ".#.o..").due("row 4", "#...o#").due("row 5", "....#o");
        Sentence.of("5: LEAST then (NONE)").due("ring 8 2; doubled 1", 16).due("ring 8 2; doubled 255", 8)
                .due("ring 3 2; doubled 7", 6).due("ring 3 2; doubled 6", 3).due("ring 4 6; doubled 63", 4)
                .due("garden 3; edges 0-1 1-2; doubled 3", -1).due("ring 8 22; doubled 0", 3);
        Sentence.of("5: 2 * n KNOTS").due("garden 3; doubled 0; now 0", 6).due("ring 7 2; doubled 64; now 0", 14)
                .due("ring 7 2; doubled 64; now 1", 14).due("ring 7 2; doubled 0; now 2", 2);
        Sentence.of("5: the AIM is gone by doubled()").after(HUNT)
                .due("doubled 0; search 0", -1).due("doubled 1; now 0", 16).due("!doubled -1; search 0", 3)
                .due("!doubled 16; search 2", 4).due("doubled 15; now 1", 8);
        Sentence.of("5: a throw for more than 8 leaves the AIM").after("garden 9; aim 2 3; grow 2")
                .due("!doubled 0; search 2", 2).due("!doubled 4; search 0", 2);
    }

    // ---- promise 6

    private static void swapNumbers() {
        Sentence.of("6: if there is no such EDGE, of both").after("garden 6; edges 0-1 2-3 4-5")
                .refused(INDEX, "swap 3 0 false", "swap 0 3 false", "swap -1 0 true", "swap 0 -1 true",
                        "swap 3 3 false", "swap -1 -1 true", "swap MIN 0 false", "swap 0 MAX false")
                .due("swap 2 0 false", true).due("swap 0 2 true", true).due("swap 1 2 false", true);
        Sentence.of("6: without EDGES").after("garden 16").refused(INDEX, "swap 0 0 false", "swap 0 1 true");
        Sentence.of("6: the last of 40").after(FULL)
                .due("swap 39 0 false", false).due("swap 0 39 true", false)
                .refused(INDEX, "swap 40 0 false", "swap 0 40 false");
        Sentence.of("6: an EDGE taken out is no such one").after("garden 6; edges 0-1 2-3; edge 0 1 false")
                .refused(INDEX, "swap 0 1 false").due("swap 0 0 false", false);
    }

    private static void swapSameKnots() {
        Sentence.of("6: no two of the four KNOTS are the same: the EDGE itself").after("garden 6; edges 0-1 2-3")
                .due("swap 0 0 false", false).due("swap 1 1 true", false).due("swap 0 0 true", false);
        Sentence.of("6: a is c").after("garden 6; edges 0-1 0-2")
                .due("swap 0 1 false", false).due("swap 0 1 true", false).due("swap 1 0 true", false);
        Sentence.of("6: b is c").after("garden 6; edges 0-1 1-2")
                .due("swap 0 1 false", false).due("swap 0 1 true", false)
                .due("swap 1 0 false", false).due("swap 1 0 true", false);
        Sentence.of("6: b is d").after("garden 6; edges 0-2 1-2")
                .due("swap 0 1 false", false).due("swap 0 1 true", false).due("swap 1 0 false", false);
    }

    private static void swapNearKnots() {
        Sentence.of("6: a and c are NEAR").after("garden 6; edges 0-1 2-3 0-2")
                .due("swap 0 2 false", false).due("swap 2 0 false", false).due("swap 0 2 false; now 1", 3)
                .due("swap 0 2 true", true).due("swap 2 0 true", true);
        Sentence.of("6: b and d are NEAR").after("garden 6; edges 0-1 2-3 1-3")
                .due("swap 0 2 false", false).due("swap 2 0 false", false)
                .due("swap 0 2 true", true).due("swap 2 0 true", true);
        Sentence.of("6: turned, a and the greater one are NEAR").after("garden 6; edges 0-1 2-3 0-3")
                .due("swap 0 2 true", false).due("swap 2 0 true", false)
                .due("swap 0 2 false", true).due("swap 2 0 false", true);
        Sentence.of("6: turned, b and the smaller one are NEAR").after("garden 6; edges 0-1 2-3 1-2")
                .due("swap 0 2 true", false).due("swap 2 0 true", false)
                .due("swap 0 2 false", true).due("swap 2 0 false", true);
    }

    private static void swapDone() {
        Sentence.of("6: those of a and c, and of b and d put in").after("garden 4; edges 0-1 2-3")
                .due("swap 0 1 false; row 0", "o.#.").due("swap 0 1 false; row 1", ".o.#")
                .due("swap 0 1 true; row 0", "o..#").due("swap 0 1 true; row 1", ".o#.")
                .due("swap 1 0 false; row 0", "o.#.").due("swap 1 0 true; row 2", ".#o.")
                .due("swap 0 1 true; now 1", 2).due("swap 0 1 false; swap 0 1 false; row 0", "o#..");
        Sentence.of("6: otherwise nothing changes").after("garden 4; edges 0-1 2-3 0-2")
                .due("swap 0 2 false; row 0", "o##.").due("swap 0 2 false; row 3", "..#o")
                .due("swap 0 1 true; row 1", "#o..");
        Sentence.of("6: COUNTS stay at 5").due(FULL + "; swap 0 38 false; now 4", 5);
        Sentence.of("6: the AIM is gone by a swap() that could be done").after("garden 8; aim 2 5; grown")
                .due("now 1", 8).due("swap 0 7 false", true).due("swap 0 7 false; search 0", -1)
                .refused(STATE, "swap 0 7 false; grow 1");
        Sentence.of("6: it stays by one that could not").after("garden 8; aim 2 5; grow 4")
                .due("swap 0 0 false; search 0", 2).due("swap 0 1 true; search 2", 4)
                .due("!swap 0 4 true; search 0", 2).due("!swap -1 0 true; search 4", 4);
    }

    // ---- promise 7

    private static void mendArguments() {
        for (String ahead : new String[] {"ring 6 4", HUNT}) {
            Sentence.of("7: if length is not 4 to 8").after(ahead)
                    .refused(ARGUMENT, "mend 3 0 1", "mend 9 0 1", "mend 0 0 1", "mend -4 0 1", "mend MIN 0 1",
                            "mend MAX 0 1")
                    .due("mend 4 0 1; search 0", -1).due("mend 8 0 1; search 0", -1);
            Sentence.of("7: seed not 0 to 9999").after(ahead)
                    .refused(ARGUMENT, "mend 4 -1 1", "mend 4 10000 1", "mend 4 MIN 1", "mend 4 MAX 1")
                    .due("mend 4 0 1; search 0", -1).due("mend 4 9999 1; search 0", -1);
            Sentence.of("7: or rounds not 1 to 20").after(ahead)
                    .refused(ARGUMENT, "mend 4 0 0", "mend 4 0 21", "mend 4 0 -1", "mend 4 0 MIN", "mend 4 0 MAX")
                    .due("mend 4 0 1; search 0", -1).due("mend 4 0 20; search 0", -1);
        }
    }

    private static void mendEdges() {
        Sentence.of("7: if there are fewer than two EDGES")
                .refused(STATE, "mend 4 0 1", "garden 5; mend 4 0 1", "garden 5; edge 0 1 true; mend 8 9999 20",
                        "garden 5; edges 0-1 2-3; edge 0 1 false; mend 4 0 1", "garden 5; aim 2 3; mend 4 0 1",
                        "garden 5; aim 2 3; grow 1; mend 4 0 1")
                .due("garden 5; edges 0-1 2-3; mend 4 0 1", 0).due("garden 5; aim 2 3; grow 2; mend 4 0 1", 0)
                .due("garden 5; aim 2 3; grow 1; !mend 4 0 1; search 2", 1);
        Sentence.of("7: wrong arguments are named ahead of fewer than two EDGES")
                .refused(ARGUMENT, "mend 3 0 1", "mend 4 -1 1", "mend 4 0 0", "garden 5; mend 9 0 1",
                        "garden 5; edge 0 1 true; mend 4 10000 1", "garden 5; mend 4 0 21");
    }

    /** With the seed 0, z is 12345: of 6 edges the first one is 5, the second one 0, turned. */
    private static void mendRounds() {
        Sentence.of("7: z / 7 modulo m, z / 1024 modulo m, TURNED if z is odd").after("ring 6 4")
                .due("mend 4 0 1", 1).due("mend 4 0 1; now 3", 6).due("mend 4 0 1; row 0", "o...##")
                .due("mend 4 0 1; row 3", ".##o..").due("mend 4 0 1; row 5", "##...o")
                .due("mend 4 0 1; row 2", "..o##.");
        Sentence.of("7: behind mending nothing is SHORT, and no SWAP is kept").after("ring 6 4")
                .due("mend 4 0 20", 1).due("mend 4 0 1; mend 4 0 20", 0).due("mend 4 0 20; row 0", "o...##");
        Sentence.of("7: the AIM is gone, even with no SWAP").after("garden 8; aim 2 5; grown")
                .due("mend 4 0 1", 0).due("mend 4 0 1; search 0", -1);
    }

    /** Two squares; with the seed 0 the first round swaps the edges 3 and 4, turned, which makes one ring of 8. */
    private static void mendShort() {
        Sentence.of("7: RINGS that are shorter than that are SHORT").after("ring 8 4")
                .due("mend 4 0 1", 0).due("mend 4 0 1; now 3", 4).due("mend 5 0 1", 1).due("mend 5 0 1; now 3", 8)
                .due("mend 8 0 1", 1).due("mend 8 0 1; now 3", 8);
        Sentence.of("7: of 7 with a LENGTH of 7 and 8").after("ring 14 4")
                .due("mend 7 0 20", 0).due("mend 7 0 20; now 3", 7).due("mend 8 0 20", 1).due("mend 8 0 20; now 3", 14);
        Sentence.of("7: no RINGS at all").after("garden 7; edges 0-1 2-3 4-5").due("mend 8 3 20", 0);
        Sentence.of("7: and SHORT would be less: as many are not enough").after("garden 9; edges 0-1 1-2 2-0 3-4 5-6")
                .due("mend 4 " + seedFor(5, 3, 4) + " 1", 0).due("mend 4 " + seedFor(5, 3, 4) + " 1; row 3", "...o#....")
                .due("mend 4 " + seedFor(5, 0, 3) + " 1", 1).due("mend 4 " + seedFor(5, 3, 1) + " 1; now 3", -1);
    }

    /** The first seed by whose first z two edges of so many are the ones of the round. */
    private static int seedFor(int edges, int first, int second) {
        for (int seed = 0; seed <= 9999; seed++) {
            long z = (seed * 1103515245L + 12345L) % 2147483648L;
            if (z / 7 % edges == first && z / 1024 % edges == second) {
                return seed;
            }
        }
        throw new AssertionError("no seed");
    }
}
