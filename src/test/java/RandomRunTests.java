import java.lang.reflect.InvocationTargetException;
import java.lang.reflect.Method;
import java.util.ArrayList;
import java.util.List;

/** Runs of calls by chance (always the same ones), whose answers are compared with those of the plain model. */
final class RandomRunTests {
    private static final String[] NAMES = {"garden", "edge", "ring", "doubled", "swap", "mend", "aim", "grow",
        "search", "now", "ofKnot", "ofEdge", "far", "rings", "bound", "ruledOut", "table", "keep", "back",
        "isAlike", "wouldEdge", "bestMarks", "row", "isSound", "knock", "digest"};
    private long z;
    private int knots = 0;
    private int edges = 0;
    private final List<String> log = new ArrayList<>();

    private RandomRunTests(long seed) {
        z = seed * 2654435761L + 77;
    }

    static void run(int runs, int from) {
        for (int i = from; i < from + runs; i++) {
            new RandomRunTests(i).oneRun(i);
        }
    }

    private int upTo(int most) {
        z = z * 6364136223846793005L + 1442695040888963407L;
        return (int) ((z >>> 33) % (most + 1));
    }

    private int within(int low, int high) {
        int odd = upTo(59);
        if (odd == 0) {
            return low - 1 - upTo(2);
        }
        if (odd == 1) {
            return high + 1 + upTo(2);
        }
        if (odd == 2) {
            return new int[] {Integer.MIN_VALUE, Integer.MAX_VALUE, -1, 1 << 30}[upTo(3)];
        }
        return high < low ? low : low + upTo(high - low);
    }

    private static Method methodOf(Class<?> face, String name) {
        for (Method m : face.getDeclaredMethods()) {
            if (m.getName().equals(name) && java.lang.reflect.Modifier.isPublic(m.getModifiers())) {
                return m;
            }
        }
        throw new AssertionError(name);
    }

    private static Object call(Object on, String name, Object[] with) {
        try {
            return methodOf(on.getClass(), name).invoke(on, with);
        } catch (InvocationTargetException e) {
            return "throws." + e.getCause().getClass().getSimpleName();
        } catch (IllegalAccessException e) {
            throw new AssertionError(e);
        }
    }

    /** A set of jumps, with few members. */
    private int someJumps(int knots) {
        int set = 0;
        for (int i = 0; i < 1 + upTo(2); i++) {
            set |= 1 << 1 + upTo(Math.max(0, knots / 2 - 1));
        }
        return upTo(20) == 0 ? set + upTo(1) * 1024 + upTo(1) : set;
    }

    private Object[] with(String name) {
        boolean is = upTo(1) == 1;
        int knot = within(0, knots - 1);
        int other = within(0, knots - 1);
        switch (name) {
            case "garden":
                return new Object[] {within(3, 16)};
            case "edge":
                return new Object[] {knot, other, upTo(3) != 0};
            case "ring":
                int many = within(3, 16);
                return new Object[] {many, someJumps(many)};
            case "doubled":
                return new Object[] {upTo(3) == 0 ? 0 : within(0, (1 << Math.min(30, edges)) - 1)};
            case "swap":
                return new Object[] {within(0, edges - 1), within(0, edges - 1), is};
            case "mend":
                return new Object[] {within(4, 8), within(0, 9999), within(1, 20)};
            case "aim":
                return new Object[] {within(2, 5), upTo(1) == 0 ? within(3, 5) : within(3, 8)};
            case "grow":
                return new Object[] {upTo(2) == 0 ? within(1, 400) : within(1, 20)};
            case "search":
                return new Object[] {within(0, 7)};
            case "now":
                return new Object[] {within(0, 10)};
            case "ofKnot":
                return new Object[] {knot, within(0, 5)};
            case "ofEdge":
                return new Object[] {within(0, edges - 1), within(0, 3)};
            case "far":
            case "wouldEdge":
                return new Object[] {knot, other};
            case "rings":
                return new Object[] {within(3, 7)};
            case "bound":
                return new Object[] {within(2, 5), within(3, 8)};
            case "ruledOut":
                return new Object[] {upTo(1) == 0 ? within(3, 16) : within(3, 99), within(2, 5), within(3, 8)};
            case "table":
                return new Object[] {within(2, 5), within(3, 8), is};
            case "back":
            case "isAlike":
                return new Object[] {within(0, 4)};
            case "row":
                return new Object[] {knot};
            default:
                return new Object[0];
        }
    }

    private String nextName() {
        // Gardens that grow by edges are wanted more often than new ones, and digests cost the model much.
        int lot = upTo(99);
        if (lot < 30) {
            return "edge";
        }
        if (lot < 38) {
            return "grow";
        }
        if (lot < 44) {
            return "swap";
        }
        String name = NAMES[upTo(NAMES.length - 1)];
        boolean isLaying = name.equals("garden") || name.equals("aim") || name.equals("back") || name.equals("ring");
        return isLaying && upTo(2) != 0 ? "edge" : name;
    }

    private void oneRun(int number) {
        Shortring got = new Shortring();
        PlainModel due = new PlainModel();
        for (int i = 0; i < 200; i++) {
            String name = nextName();
            Object[] with = with(name);
            log.add(name + java.util.Arrays.toString(with));
            if (!same(number, got, due, name, with)) {
                return;
            }
            knots = got.now(0);
            edges = got.now(1);
            if (i % 25 == 24 && !same(number, got, due, "digest", new Object[0])) {
                return;
            }
        }
    }

    private boolean same(int number, Object got, Object due, String name, Object[] with) {
        Object a = call(got, name, with);
        Object b = call(due, name, with);
        boolean is = a.equals(b);
        if (is) {
            Checks.passed++;
        } else {
            Checks.same("random run " + number + " " + log + " " + name, a, b);
        }
        return is;
    }
}
