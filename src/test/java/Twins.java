import java.util.List;

/** Tells whether a call left all as it was: beside the object stands a twin that had the same calls but that one. */
final class Twins {
    private Twins() {
    }

    static void unchanged(String what, Shortring x, List<String> before) {
        Shortring twin = new Shortring();
        Script.allOf(twin, before);
        Checks.same(what + ": what is seen behind it", seen(x), seen(twin));
        Checks.same(what + ": what comes of it", later(x), later(twin));
    }

    /** All that can be asked. */
    static String seen(Shortring x) {
        StringBuilder text = new StringBuilder();
        text.append(x.digest()).append(' ').append(x.ruledOut(9, 4, 4)).append(' ');
        for (int what = 0; what <= 7; what++) {
            text.append(x.search(what)).append(' ');
        }
        for (int knot = 0; knot < x.now(0); knot++) {
            text.append(x.row(knot)).append(' ');
        }
        return text.toString();
    }

    /** What no question tells, but what is done with it: the order of the edges put in, and what is barred and kept. */
    static String later(Shortring x) {
        StringBuilder text = new StringBuilder();
        for (int steps : new int[] {1, 3, 40}) {
            text.append(Checks.answer(() -> x.grow(steps))).append(' ').append(x.digest()).append(' ');
        }
        text.append(x.knock()).append(' ').append(Checks.answer(x::keep)).append(' ');
        for (int number = 0; number < x.now(8); number++) {
            text.append(x.back(number)).append(' ').append(x.digest()).append(' ');
        }
        return text.toString();
    }
}
