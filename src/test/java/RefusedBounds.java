import java.util.List;

/**
 * A method that throws an exception changes nothing: each cause of an exception, in states that have as much to lose as
 * the cause leaves room for. The state's twin, which has not had the call, is looked at once.
 */
final class RefusedBounds {
    private static final String INDEX = Sentence.INDEX;
    private static final String ARGUMENT = Sentence.ARGUMENT;
    private static final String STATE = Sentence.STATE;
    /** Two that knocked, two gardens kept, and two tabled. */
    private static final String RICH = "times 2 knock; ring 5 2; keep; ring 6 10; keep; ";
    private static final String[] WHATS = {"garden 2", "garden 17", "ring 2 2", "ring 17 2", "ring 8 0", "ring 8 1",
        "ring 8 32", "ring 16 14", "doubled -1", "doubled MIN", "mend 3 0 1", "mend 9 0 1", "mend 4 -1 1", "mend 4 10000 1",
        "mend 4 0 0", "mend 4 0 21", "aim 1 3", "aim 6 3", "aim 2 2", "aim 2 9", "grow 0", "grow 401", "search -1",
        "search 8", "now -1", "now 11", "rings 2", "rings 8", "bound 1 3", "bound 6 3", "bound 2 2", "bound 2 9",
        "ruledOut 2 2 3", "ruledOut 100 2 3", "ruledOut 9 1 3", "ruledOut 9 6 3", "ruledOut 9 2 2", "ruledOut 9 2 9",
        "table 1 3 true", "table 6 3 false", "table 2 2 false", "table 2 9 true"};
    private static final String[] NUMBERS = {"edge -1 0 true", "edge 0 16 true", "edge 16 0 false", "swap -1 0 true",
        "swap 0 40 false", "swap 40 0 true", "ofKnot -1 0", "ofKnot 16 0", "ofEdge -1 0", "ofEdge 40 0", "far -1 0",
        "far 0 16", "far 16 0", "back -1", "back 5", "isAlike -1", "isAlike 5", "wouldEdge -1 0", "wouldEdge 0 16", "row -1",
        "row 16"};
    private static final String[] SAME = {"edge 0 0 true", "edge 0 0 false", "wouldEdge 0 0", "ofKnot 0 -1", "ofKnot 0 6"};
    private static final String[] OF_EDGES = {"ofEdge 0 -1", "ofEdge 0 4"};
    private static final String[] TOO_MANY_KNOTS = {"doubled 0", "bestMarks"};

    private final String scene;
    private final List<String> calls;
    private final String seen;
    private final String later;

    private RefusedBounds(String scene) {
        this.scene = scene;
        calls = Script.callsOf(scene);
        Shortring twin = made();
        seen = Twins.seen(twin);
        later = Twins.later(twin);
    }

    static void run() {
        at("times 2 knock").always().refused(STATE, "doubled 0", "mend 4 0 1", "aim 2 3", "grow 1", "keep", "bestMarks");
        String eight = RICH + "garden 8; aim 3 5; grow 60";
        at(eight).always().refused(ARGUMENT, SAME).refused(ARGUMENT, OF_EDGES)
                .refused(ARGUMENT, "doubled 16").refused(INDEX, "swap 4 0 false", "swap 0 4 true", "ofEdge 4 0", "back 2",
                        "isAlike 2", "row 8");
        at(eight + "; keep; keep; keep").refused(STATE, "keep").refused(INDEX, "back 5", "isAlike 5");
        at(RICH + "garden 4; aim 2 5; grow 5").always().refused(STATE, "mend 4 0 1").refused(ARGUMENT, SAME);
        at(RICH + "garden 4; aim 2 5; grow 10").always().refused(STATE, "mend 4 0 1").refused(INDEX, "ofEdge 0 0");
        at(RICH + "garden 9; aim 4 4; grow 60").always().refused(STATE, TOO_MANY_KNOTS).refused(ARGUMENT, SAME);
        at(RICH + "garden 8; aim 5 3; grow 19").always()
                .refused(STATE, "edge 0 6 true", "edge 6 0 true", "edge 0 7 true", "edge 7 0 true");
        at(RICH + "garden 16; aim 5 4; grow 42").always().refused(STATE, "edge 0 6 true", "edge 15 0 true")
                .refused(STATE, TOO_MANY_KNOTS);
        at(RICH + "garden 10; aim 3 5; grown").always().refused(STATE, TOO_MANY_KNOTS).refused(ARGUMENT, OF_EDGES);
        at(RICH + "garden 16; aim 3 6; grown").refused(STATE, TOO_MANY_KNOTS).refused(INDEX, "ofEdge 24 0");
        at(RICH + "ring 16 262; keep; keep; keep").always().refused(ARGUMENT, SAME).refused(ARGUMENT, OF_EDGES)
                .refused(STATE, "grow 1", "grow 400", "keep", "edge 0 3 true").refused(STATE, TOO_MANY_KNOTS);
        at(RICH + "garden 9; aim 4 4; grown").refused(STATE, "mend 4 0 1").refused(STATE, TOO_MANY_KNOTS)
                .refused(ARGUMENT, "aim 6 4", "grow 0", "ruledOut 2 4 4", "table 1 4 true", "ring 9 1", "garden 2")
                .refused(INDEX, "back 2", "edge 0 9 true", "swap 0 0 false");
    }

    private static RefusedBounds at(String scene) {
        return new RefusedBounds(scene);
    }

    private Shortring made() {
        Shortring x = new Shortring();
        Checks.same("refused: " + scene, Script.allOf(x, calls), "");
        return x;
    }

    private RefusedBounds always() {
        return refused(ARGUMENT, WHATS).refused(INDEX, NUMBERS);
    }

    private RefusedBounds refused(String exception, String... those) {
        for (String call : those) {
            String what = "a method that throws changes nothing [" + scene + "; " + call + "]";
            Shortring x = made();
            Checks.same(what, Script.answer(x, call), exception);
            Checks.same(what + ": what is seen behind it", Twins.seen(x), seen);
            Checks.same(what + ": what comes of it", Twins.later(x), later);
        }
        return this;
    }
}
