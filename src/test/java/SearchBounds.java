import java.util.Arrays;

/** The sentences that name a boundary case: section 3 and promises 8 to 10, the search. */
final class SearchBounds {
    private static final String INDEX = Sentence.INDEX;
    private static final String ARGUMENT = Sentence.ARGUMENT;
    private static final String STATE = Sentence.STATE;
    /** In the midst of a search, with three edges that are barred, two gardens kept, and one tabled. */
    private static final String HUNT = "ring 5 2; keep; garden 8; keep; knock; aim 3 5; grow 60";
    /** Edges | looks at, joins | put, barred, state, ahead of each step for 4 knots, the count 2, the length 5. */
    private static final String[] PROOF = {
        "| 0 1 | 0 0 0", "0-1 | 0 2 | 1 0 0", "0-1 0-2 | 1 3 | 2 0 0", "0-1 0-2 1-3 | 2 -1 | 3 0 0",
        "0-1 0-2 | 1 -1 | 2 1 0", "0-1 | 0 3 | 1 1 0", "0-1 0-3 | 1 2 | 2 1 0", "0-1 0-3 1-2 | 2 -1 | 3 1 0",
        "0-1 0-3 | 1 -1 | 2 2 0", "0-1 | 0 -1 | 1 2 0", "| 0 2 | 0 1 0", "0-2 | 0 3 | 1 1 0",
        "0-2 0-3 | 2 1 | 2 1 0", "0-2 0-3 1-2 | 1 -1 | 3 1 0", "0-2 0-3 | 2 -1 | 2 2 0", "0-2 | 0 -1 | 1 2 0",
        "| 0 -1 | 0 2 0", "| -1 -1 | 0 0 2"};
    /** The same for the length 4. */
    private static final String[] FIND = {
        "| 0 1 | 0 0 0", "0-1 | 0 2 | 1 0 0", "0-1 0-2 | 1 3 | 2 0 0", "0-1 0-2 1-3 | 2 3 | 3 0 0",
        "0-1 0-2 1-3 2-3 | -1 -1 | 4 0 0", "0-1 0-2 1-3 2-3 | -1 -1 | 4 0 1"};
    /**
     * KNOTS, and of their 24 AIMS behind 1200 STEPS: how many are FOUND, how many PROVED, and their digests in one number,
     * as a third writing of the document (in another language, outside the project) had them.
     */
    private static final long[][] ENDS = {
        {3, 1, 23, 5173439287428443288L}, {4, 3, 21, 9020008758738271286L}, {5, 4, 20, 2945069268388532155L},
        {6, 8, 16, -3905485423829351501L}, {7, 6, 14, -1125521471380600409L}, {8, 11, 9, 8344557040795944875L},
        {9, 7, 5, -3939171696425448841L}, {10, 12, 4, 6252265754444064567L}, {11, 7, 0, 5303966422286836191L},
        {12, 11, 0, -1882561445961792936L}, {13, 7, 0, -1432778933989692495L}, {14, 11, 0, 1214110924459851849L},
        {15, 6, 0, -581162862450052664L}, {16, 11, 0, 7973120734449284929L}};

    private SearchBounds() {
    }

    static void run() {
        aimArguments();
        aimWhy();
        aimBegins();
        aimIsGone();
        growArguments();
        growEnds();
        growStops();
        searchArguments();
        searchAnswers();
        mayBeJoined();
        theStepLooksAt();
        joinsOrGoesBack();
        trace("garden 4; aim 2 5", PROOF);
        trace("garden 4; aim 2 4", FIND);
        tracesAsTheModels();
        longSearches();
        for (long[] due : ENDS) {
            endsOfAll((int) due[0], due);
        }
    }

    // ---- promise 8

    private static void aimArguments() {
        for (String ahead : new String[] {"ring 5 2", "garden 16", HUNT, "garden 4; aim 2 5; grown"}) {
            Sentence.of("8: if count is not 2 to 5").after(ahead)
                    .refused(ARGUMENT, "aim 1 3", "aim 6 3", "aim 0 3", "aim -1 3", "aim -2 3", "aim MIN 3",
                            "aim MAX 3")
                    .due("aim 2 3; search 0", 2).due("aim 5 3; search 0", 5);
            Sentence.of("8: or length not 3 to 8").after(ahead)
                    .refused(ARGUMENT, "aim 2 2", "aim 2 9", "aim 2 0", "aim 2 -1", "aim 2 -3", "aim 2 MIN", "aim 2 MAX")
                    .due("aim 2 3; search 1", 3).due("aim 2 8; search 1", 8);
        }
        Sentence.of("8: if there are no KNOTS").refused(STATE, "aim 2 3", "aim 5 8", "!garden 2; aim 2 3")
                .due("garden 3; aim 2 3", 0);
        Sentence.of("8: wrong arguments are named ahead of no KNOTS")
                .refused(ARGUMENT, "aim 1 3", "aim 6 3", "aim 2 2", "aim 2 9", "aim MIN MAX");
    }

    private static void aimWhy() {
        Sentence.of("8: why it is RULED OUT (0: it is not)").due("garden 5; aim 3 3", 1).due("garden 3; aim 5 8", 1)
                .due("garden 4; aim 2 5", 2).due("garden 5; aim 2 5", 0).due("garden 13; aim 3 6", 1)
                .due("garden 12; aim 3 6", 2).due("garden 14; aim 3 6", 0).due("garden 16; aim 5 8", 2);
        Sentence.of("8: the AIM is there in any case").due("garden 5; aim 3 3; search 0", 3)
                .due("garden 4; aim 2 5; search 1", 5).due("garden 5; aim 3 3; grow 1", 0)
                .due("garden 9; aim 4 4; grown; aim 4 4; search 1", 4);
        Sentence.of("8: behind a proof").after("garden 9; aim 4 4; grown")
                .due("aim 4 4", 3).due("aim 4 3", 0).due("aim 4 5", 2).due("aim 3 4", 1).due("garden 10; aim 4 4", 0);
    }

    private static void aimBegins() {
        Sentence.of("8: all EDGES are gone").after("ring 16 262").due("aim 2 3; now 1", 0).due("aim 2 3; now 0", 16)
                .due("aim 2 3; row 3", "...o............").due("ring 3 2; aim 5 3; ofKnot 2 1", 0);
        Sentence.of("8: no STEP, nothing BARRED, and neither FOUND nor PROVED").after(HUNT)
                .due("aim 3 5; search 2", 0).due("aim 3 5; search 3", 0).due("aim 3 5; search 4", 0)
                .due("aim 3 5; search 5", 0).due("aim 3 5; search 6", 0).due("aim 3 5; search 7", 1)
                .due("aim 3 5; ofKnot 0 5", 7).due("aim 3 5; ofKnot 7 5", 7).due("aim 3 5; grow 60; search 3", 3);
        Sentence.of("8: behind FOUND").after("garden 4; aim 2 4; grown")
                .due("aim 2 4; search 5", 0).due("aim 2 4; search 4", 0).due("aim 2 4; search 2", 0)
                .due("aim 2 4; grow 4", 0).due("aim 2 4; grow 5", 1);
        Sentence.of("8: whatever was PROVED before").after("garden 4; aim 2 5; grown")
                .due("aim 2 5; search 5", 0).due("aim 2 5; search 4", 0).due("aim 2 5; search 6", 0)
                .due("aim 2 5; grow 16", 0).due("aim 2 5; grow 17", 2);
    }

    private static void aimIsGone() {
        Sentence goesBy = Sentence.of("8: the AIM is gone by").after(HUNT);
        for (String call : new String[] {"garden 8", "edge 0 3 true", "ring 8 2", "doubled 0", "mend 4 0 1", "back 0",
            "back 1", "swap 1 3 true", "garden 3", "edge 0 1 true", "edge 6 7 false"}) {
            for (int what = 0; what <= 7; what++) {
                goesBy.due(call + "; search " + what, -1);
            }
            goesBy.due(call + "; ofKnot 0 5", 0).refused(STATE, call + "; grow 1");
        }
        Sentence staysBy = Sentence.of("8: the AIM stays by").after(HUNT);
        for (String call : new String[] {"keep", "knock", "swap 0 1 false", "now 7", "isAlike 0", "bestMarks",
            "wouldEdge 6 7", "isSound", "digest", "!garden 2", "!edge 0 0 true", "!ring 8 1", "!doubled -1",
            "!mend 3 0 1", "!back 2", "!swap 4 0 true", "!aim 1 3", "!grow 0", "!search 8"}) {
            staysBy.due(call + "; search 0", 3).due(call + "; search 2", 4).due(call + "; search 3", 3)
                    .due(call + "; search 4", 60).due(call + "; grow 1", 0);
        }
        Sentence.of("8: a new AIM, not the old one").after(HUNT).due("aim 2 6; search 0", 2).due("aim 2 6; search 1", 6);
    }

    // ---- promise 9

    private static void growArguments() {
        for (String ahead : new String[] {"garden 8; aim 3 5", HUNT, "garden 4; aim 2 5; grown", "garden 4; aim 2 4; grown"}) {
            Sentence.of("9: if steps is not 1 to 400").after(ahead)
                    .refused(ARGUMENT, "grow 0", "grow 401", "grow -1", "grow -400", "grow 800", "grow MIN", "grow MAX");
        }
        Sentence.of("9: 1 and 400 are taken").after("garden 9; aim 4 4").due("grow 1", 0).due("grow 400", 0)
                .due("grow 1; search 4", 1).due("grow 400; search 4", 400).due("grow 399; search 4", 399)
                .due("grow 400; grow 400; search 4", 800);
        Sentence.of("9: if there is no AIM")
                .refused(STATE, "grow 1", "grow 400", "garden 16; grow 1", "ring 5 2; grow 400",
                        HUNT + "; back 1; grow 1", "garden 4; aim 2 5; grown; garden 4; grow 1");
        Sentence.of("9: wrong steps are named ahead of no AIM")
                .refused(ARGUMENT, "grow 0", "grow 401", "garden 5; grow 0", "garden 5; grow 401", "garden 5; grow MIN");
    }

    private static void growEnds() {
        Sentence.of("9: 0 if it goes on, 1 FOUND: the last STEP only sees it").after("garden 4; aim 2 4")
                .due("grow 3", 0).due("grow 4", 0).due("grow 4; now 1", 4).due("grow 4; grow 1", 1).due("grow 5", 1)
                .due("grow 6", 1).due("grow 400", 1);
        Sentence.of("9: 2 PROVED").after("garden 4; aim 2 5").due("grow 16", 0).due("grow 16; grow 1", 2)
                .due("grow 17", 2).due("grow 18", 2).due("grow 400; now 1", 0);
        Sentence.of("9: none behind FOUND").after("garden 4; aim 2 4; grow 400").due("search 4", 5).due("grow 1", 1)
                .due("grow 400; search 4", 5).due("grow 1; now 1", 4).due("grow 400; search 2", 4);
        Sentence.of("9: none behind PROVED").after("garden 4; aim 2 5; grow 400").due("search 4", 17).due("grow 1", 2)
                .due("grow 400; search 4", 17).due("grow 1; search 2", 0).due("grow 400; now 1", 0);
        Sentence.of("9: PROVED by the first STEP").due("garden 3; aim 3 3; grow 1", 2).due("garden 4; aim 4 3; grow 1", 2)
                .due("garden 5; aim 5 3; grow 1", 2).due("garden 4; aim 3 3; grow 1", 0).due("garden 5; aim 4 3; grow 1", 0);
    }

    private static void growStops() {
        Sentence.of("9: stopped and gone on with at any step").after("garden 8; aim 3 5")
                .due("times 60 grow 1; search 3", 3).due("grow 59; grow 1; search 3", 3).due("grow 30; grow 30; search 2", 4)
                .due("grow 7; grow 53; search 6", 1).due("grow 60; search 7", 7).due("times 20 grow 3; row 0", "o##.#...");
        Sentence.of("9: asked in between").after("garden 8; aim 3 5")
                .due("grow 30; digest; search 6; now 7; bestMarks; grow 30; search 3", 3);
    }

    // ---- promise 10

    private static void searchArguments() {
        for (String ahead : new String[] {"", "garden 5", HUNT, "garden 4; aim 2 5; grown"}) {
            Sentence.of("10: if what is not 0 to 7").after(ahead)
                    .refused(ARGUMENT, "search -1", "search 8", "search 9", "search -8", "search MIN", "search MAX");
        }
        Sentence.of("10: 0 and 7 are taken").after(HUNT).due("search 0", 3).due("search 7", 7);
        for (String ahead : new String[] {"", "garden 5", "ring 8 2", HUNT + "; garden 8"}) {
            Sentence none = Sentence.of("10: NONE without an AIM").after(ahead);
            for (int what = 0; what <= 7; what++) {
                none.due("search " + what, -1);
            }
        }
    }

    private static void searchAnswers() {
        Sentence.of("10: in the midst of a search").after(HUNT)
                .due("search 0", 3).due("search 1", 5).due("search 2", 4).due("search 3", 3).due("search 4", 60)
                .due("search 5", 0).due("search 6", 1).due("search 7", 7);
        Sentence.of("10: NONE as all have their COUNT, ahead of FOUND").after("garden 4; aim 2 4; grow 4")
                .due("search 5", 0).due("search 6", -1).due("search 7", -1).due("search 2", 4);
        Sentence.of("10: NONE as it is FOUND").after("garden 4; aim 2 4; grow 5")
                .due("search 5", 1).due("search 6", -1).due("search 7", -1).due("search 2", 4).due("search 3", 0);
        Sentence.of("10: NONE as it is PROVED").after("garden 4; aim 2 5; grow 17")
                .due("search 5", 2).due("search 6", -1).due("search 7", -1).due("search 2", 0).due("search 3", 0);
        Sentence.of("10: NONE, if it would go back").after("garden 4; aim 2 5").due("grow 3; search 6", 2)
                .due("grow 3; search 7", -1).due("grow 16; search 6", 0).due("grow 16; search 7", -1);
        Sentence.of("10: what was BARRED is still so behind FOUND").due("garden 16; aim 3 6; grown; search 5", 1)
                .due("garden 16; aim 3 6; grown; search 4", 483).due("garden 16; aim 3 6; grown; search 2", 24);
    }

    // ---- section 3

    private static void mayBeJoined() {
        Sentence.of("12: joined, if both have a COUNT below k").after("garden 6; aim 2 3")
                .due("ofKnot 0 5", 5).due("grow 1; ofKnot 0 5", 4).due("grow 1; ofKnot 2 5", 5)
                .due("grow 2; ofKnot 0 5", 0).due("grow 2; ofKnot 3 5", 4).due("grow 2; ofKnot 1 5", 4);
        Sentence.of("12: a COUNT of 5 is none below 5").after("garden 7; aim 5 3")
                .due("grow 4; ofKnot 0 5", 2).due("grow 5; ofKnot 0 5", 0).due("grow 5; ofKnot 6 5", 5);
        // Behind three steps there is the path 3, 1, 0, 2.
        Sentence.of("12: their DISTANCE is g - 1: joined").due("garden 4; aim 2 4; grow 3; ofKnot 2 5", 1)
                .due("garden 4; aim 2 4; grow 3; ofKnot 3 5", 1).due("garden 3; aim 2 3; grow 2; ofKnot 1 5", 1)
                .due("garden 8; aim 2 8; grow 7; search 7", 7);
        Sentence.of("12: their DISTANCE is g - 2: not joined").due("garden 4; aim 2 5; grow 3; ofKnot 2 5", 0)
                .due("garden 4; aim 2 5; grow 3; ofKnot 3 5", 0).due("garden 3; aim 2 4; grow 2; ofKnot 1 5", 0)
                .due("garden 7; aim 2 8; grow 6; search 7", -1);
        Sentence.of("12: their DISTANCE is NONE").after("garden 6; aim 2 8")
                .due("ofKnot 5 5", 5).due("grow 3; ofKnot 3 5", 2).due("grow 3; ofKnot 4 5", 3);
        Sentence.of("12: this EDGE is not BARRED").after("garden 4; aim 2 5")
                .due("grow 4; ofKnot 1 5", 0).due("grow 4; ofKnot 3 5", 1).due("grow 5; ofKnot 1 5", 2)
                .due("grow 5; ofKnot 2 5", 2).due("grow 16; ofKnot 0 5", 1).due("grow 16; ofKnot 3 5", 3)
                .due("grow 17; ofKnot 0 5", 3).due("grow 17; ofKnot 1 5", 3);
    }

    private static void theStepLooksAt() {
        Sentence.of("10: with the fewest KNOTS, of several the first one")
                .due("garden 4; aim 2 5; search 6", 0).due("garden 4; aim 2 5; grow 1; search 6", 0)
                .due("garden 4; aim 2 5; grow 2; search 6", 1).due("garden 4; aim 2 5; grow 12; search 6", 2)
                .due("garden 16; aim 2 3; search 6", 0);
        Sentence.of("10: of the KNOTS with a COUNT below k").after("garden 5; aim 2 3")
                .due("grow 2; search 6", 1).due("grow 3; search 6", 3).due("grow 3; ofKnot 0 5", 0)
                .due("grow 3; ofKnot 1 5", 0);
        Sentence.of("10: to the first of these").due("garden 4; aim 2 5; search 7", 1)
                .due("garden 4; aim 2 5; grow 5; search 7", 3).due("garden 4; aim 2 5; grow 12; search 7", 1);
    }

    private static void joinsOrGoesBack() {
        Sentence.of("9: to no fewer than it still needs").due("garden 4; aim 3 3; search 7", 1)
                .due("garden 4; aim 3 3; grow 1; search 2", 1).due("garden 6; aim 5 3; grow 1; search 2", 1);
        Sentence.of("9: to one fewer").due("garden 3; aim 3 3; search 7", -1).due("garden 3; aim 3 3; search 6", 0)
                .due("garden 5; aim 5 3; search 7", -1).due("garden 5; aim 5 3; grow 1; search 5", 2);
        Sentence.of("9: the last EDGE that was put in is taken out, and BARRED").after("garden 4; aim 2 5; grow 4")
                .due("now 1", 2).due("search 2", 2).due("search 3", 1).due("far 1 3", -1);
        Sentence.of("9: all that had been BARRED since it was put in is not any more").after("garden 4; aim 2 5")
                .due("grow 8; search 3", 2).due("grow 9; search 3", 2).due("grow 10; search 3", 1);
        Sentence.of("9: with none that was put in, nothing is BARRED any more").after("garden 4; aim 2 5")
                .due("grow 16; search 3", 2).due("grow 17; search 3", 0);
        Sentence.of("17: it is PROVED").due("garden 9; aim 4 4; grown", 2).due("garden 9; aim 4 4; grown; ruledOut 9 4 4", 3);
        Sentence.of("17: it is not PROVED by a search that goes on").after("garden 9; aim 4 4; times 93 grow 400")
                .due("ruledOut 9 4 4", 0).due("grow 64; ruledOut 9 4 4", 0).due("grow 65; ruledOut 9 4 4", 3)
                .due("grow 65; search 4", 37265);
        Sentence.of("14: no such KNOT in a search").after(HUNT).refused(INDEX, "far 0 8", "ofKnot 8 5");
    }

    // ---- step by step

    private static void trace(String ahead, String[] steps) {
        Shortring x = new Shortring();
        Script.allOf(x, Script.callsOf(ahead));
        for (int i = 0; i < steps.length; i++) {
            Checks.same("9: " + ahead + ", behind " + i + " steps", told(x), steps[i]);
            x.grow(1);
        }
    }

    private static String told(Shortring x) {
        StringBuilder text = new StringBuilder();
        for (int number = 0; number < x.now(1); number++) {
            text.append(x.ofEdge(number, 0)).append('-').append(x.ofEdge(number, 1)).append(' ');
        }
        text.append("| ").append(x.search(6)).append(' ').append(x.search(7)).append(" | ");
        return text.append(x.search(2)).append(' ').append(x.search(3)).append(' ').append(x.search(5)).toString();
    }

    /** All numbers of knots, counts and lengths, step by step as the model goes. */
    private static void tracesAsTheModels() {
        for (int knots = 3; knots <= 16; knots++) {
            for (int kind = 0; kind < 24; kind++) {
                String aim = "aim " + (2 + kind / 6) + " " + (3 + kind % 6);
                Shortring x = new Shortring();
                PlainModel model = new PlainModel();
                x.garden(knots);
                model.garden(knots);
                boolean is = Script.answer(x, aim).equals(Script.answer(model, aim));
                for (int step = 0; step < 60 && is; step++) {
                    is = x.grow(1) == model.grow(1) && isAsTheModel(x, model, knots);
                }
                Checks.that("9: " + aim + " for " + knots + " knots goes as the model", is);
            }
        }
    }

    private static boolean isAsTheModel(Shortring x, PlainModel model, int knots) {
        boolean is = true;
        for (int what = 0; what <= 7; what++) {
            is &= x.search(what) == model.search(what);
        }
        for (int knot = 0; knot < knots; knot++) {
            is &= x.row(knot).equals(model.row(knot));
        }
        return is;
    }

    private static void longSearches() {
        Sentence.of("9: as many EDGES as there can be").after("garden 16; aim 5 3; grown")
                .due("search 5", 1).due("search 2", 40).due("now 1", 40).due("now 4", 5).due("search 4", 7367);
        Shortring x = new Shortring();
        x.garden(16);
        x.aim(3, 7);
        int answers = 0;
        for (int call = 0; call < 508; call++) {
            answers += x.grow(400);
        }
        Checks.same("9: 508 calls of 400 steps each", answers + " " + x.search(4) + " " + x.isSound(), "0 203200 true");
    }

    private static void endsOfAll(int knots, long[] due) {
        long[] got = {knots, 0, 0, 0};
        for (int kind = 0; kind < 24; kind++) {
            Shortring x = new Shortring();
            x.garden(knots);
            x.aim(2 + kind / 6, 3 + kind % 6);
            int end = 0;
            for (int call = 0; call < 3; call++) {
                end = x.grow(400);
            }
            got[1] += end == 1 ? 1 : 0;
            got[2] += end == 2 ? 1 : 0;
            got[3] = got[3] * 31 + x.digest();
        }
        Checks.same("9: the ends of all AIMS", Arrays.toString(got), Arrays.toString(due));
    }
}
