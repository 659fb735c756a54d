import java.util.ArrayList;
import java.util.List;

/**
 * In some states of an object: every call with every choice of arguments on both sides of their bounds, each on an
 * object of its own. The answer must be the plain model's; what is refused or only asks must leave all as it was, and
 * what changes must leave what it leaves in the model.
 */
final class GridTests {
    private static final String[] SCENES = {"", "garden 3", "garden 7; edges 0-1 0-2 0-3 0-4 0-5; keep",
        "ring 8 2; times 5 keep; knock", "ring 5 2; keep; garden 8; keep; knock; aim 3 5; grow 60",
        "ring 3 2; keep; garden 4; aim 2 5; grown", "garden 4; aim 2 4; grown; keep",
        "ring 16 2; keep; edges 0-8 0-5 0-3", "ring 9 8; edges 0-1 4-5; edge 0 3 false"};
    private static final String[] FAR = {"-1", "MIN", "MAX"};

    private final String scene;
    private final List<String> calls;
    private final int knots;
    private final int edges;
    private final String seen;
    private final String later;
    private PlainModel model;

    private GridTests(String scene) {
        this.scene = scene;
        calls = Script.callsOf(scene);
        Shortring twin = made();
        knots = twin.now(0);
        edges = twin.now(1);
        seen = Twins.seen(twin);
        later = Twins.later(twin);
        renew();
    }

    static void run() {
        for (String scene : SCENES) {
            new GridTests(scene).all();
        }
    }

    private Shortring made() {
        Shortring x = new Shortring();
        Checks.same("grid: " + scene, Script.allOf(x, calls), "");
        return x;
    }

    private void renew() {
        model = new PlainModel();
        Script.allOf(model, calls);
    }

    private void one(String call) {
        String what = "grid [" + scene + "; " + call + "]";
        Shortring x = made();
        String got = Script.answer(x, call);
        Checks.same(what, got, Script.answer(model, call));
        if (got.startsWith("throws.") || Script.isAsking(call)) {
            Checks.same(what + ": what is seen behind it", Twins.seen(x), seen);
            Checks.same(what + ": what comes of it", Twins.later(x), later);
        } else {
            Checks.same(what + ": what it leaves", left(x), left(model));
            renew();
        }
    }

    /** What a change leaves, in an object or in the model. */
    private static String left(Object on) {
        StringBuilder text = new StringBuilder();
        int many = Integer.parseInt(Script.answer(on, "now 0"));
        for (int knot = 0; knot < many; knot++) {
            text.append(Script.answer(on, "row " + knot)).append(' ');
        }
        for (int what = 0; what <= 7; what++) {
            text.append(Script.answer(on, "search " + what)).append(' ');
        }
        for (int kind = 0; kind < 24; kind++) {
            text.append(Script.answer(on, "table " + (2 + kind / 6) + " " + (3 + kind % 6) + " false")).append(' ');
        }
        return text.append(Script.answer(on, "now 8")).append(' ').append(Script.answer(on, "now 10")).toString();
    }

    /** Each choice of one value of each kind. */
    private void each(String name, String[]... kinds) {
        List<String> made = new ArrayList<>(List.of(name));
        for (String[] kind : kinds) {
            List<String> longer = new ArrayList<>();
            for (String start : made) {
                for (String value : kind) {
                    longer.add(start + " " + value);
                }
            }
            made = longer;
        }
        for (String call : made) {
            one(call);
        }
    }

    private static String[] span(int low, int high) {
        String[] all = new String[high - low + 3];
        for (int i = low; i <= high; i++) {
            all[i - low] = String.valueOf(i);
        }
        all[all.length - 2] = "MIN";
        all[all.length - 1] = "MAX";
        return all;
    }

    private static String[] these(int... numbers) {
        String[] all = new String[numbers.length + FAR.length];
        for (int i = 0; i < numbers.length; i++) {
            all[i] = String.valueOf(numbers[i]);
        }
        System.arraycopy(FAR, 0, all, numbers.length, FAR.length);
        return all;
    }

    private void all() {
        String[] is = {"true", "false"};
        String[] knot = these(0, 1, knots / 2, knots - 1, knots);
        String[] edge = these(0, 1, edges - 1, edges);
        String[] count = span(1, 6);
        String[] length = span(2, 9);
        each("garden", these(0, 2, 3, 4, 15, 16, 17));
        each("edge", knot, knot, is);
        each("ring", these(2, 3, 4, 7, 15, 16, 17), these(0, 1, 2, 4, 6, 8, 14, 128, 256, 258, 262, 270, 512));
        each("doubled", these(0, 1, (1 << Math.min(30, edges)) - 1, 1 << Math.min(30, edges)));
        each("swap", edge, edge, is);
        each("mend", these(3, 4, 5, 8, 9), these(0, 7, 9999, 10000), these(0, 1, 20, 21));
        each("aim", count, length);
        each("grow", these(0, 1, 2, 399, 400, 401));
        each("search", span(-1, 8));
        each("now", span(-1, 11));
        each("ofKnot", knot, span(-1, 6));
        each("ofEdge", edge, span(-1, 4));
        each("far", knot, knot);
        each("rings", span(2, 8));
        each("bound", count, length);
        each("ruledOut", these(2, 3, 8, 9, 99, 100), span(1, 6), these(2, 3, 4, 8, 9));
        each("table", count, length, is);
        each("back", span(-1, 5));
        each("isAlike", span(-1, 5));
        each("wouldEdge", knot, knot);
        each("row", knot);
        for (String plain : new String[] {"keep", "bestMarks", "isSound", "knock", "digest"}) {
            one(plain);
        }
    }
}
