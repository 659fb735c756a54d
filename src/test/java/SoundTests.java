import java.lang.reflect.Field;
import java.lang.reflect.Method;

/**
 * No run of calls makes isSound() false. So these tests break what stands inside the object by hand, one thing at a
 * time, and look whether isSound() tells it. They know the names of the private fields, and are left out, which they
 * tell, where a Shortring is held otherwise.
 */
final class SoundTests {
    private SoundTests() {
    }

    static void run() throws Exception {
        if (!isHeldSo()) {
            System.out.println("SoundTests are left out: the object is held otherwise, give them its names");
            return;
        }
        nearFromBothSides();
        neverWithOneself();
        noMoreThanTheCount();
        noShorterRing();
        evenGardens();
        tabledGardens();
        digestTellsIt();
    }

    private static boolean isHeldSo() throws Exception {
        try {
            Shortring x = new Shortring();
            near(x);
            forget(x);
            prove(x, 3, 2, 3);
            return true;
        } catch (NoSuchFieldException | NoSuchMethodException e) {
            return false;
        }
    }

    private static Shortring made(String calls) {
        Shortring x = new Shortring();
        Checks.same("25: " + calls, Script.allOf(x, Script.callsOf(calls)), "");
        return x;
    }

    private static Object inside(Object of, String name) throws Exception {
        Field field = of.getClass().getDeclaredField(name);
        field.setAccessible(true);
        return field.get(of);
    }

    private static int[] near(Shortring x) throws Exception {
        return (int[]) inside(inside(x, "net"), "near");
    }

    private static void join(Shortring x, int... ends) throws Exception {
        int[] near = near(x);
        for (int i = 0; i + 1 < ends.length; i += 2) {
            near[ends[i]] |= 1 << ends[i + 1];
            near[ends[i + 1]] |= 1 << ends[i];
        }
    }

    private static void prove(Shortring x, int knots, int count, int length) throws Exception {
        Object ledger = inside(x, "ledger");
        Method prove = ledger.getClass().getDeclaredMethod("prove", int.class, int.class, int.class);
        prove.setAccessible(true);
        prove.invoke(ledger, knots, count, length);
    }

    private static void forget(Shortring x) throws Exception {
        java.util.Arrays.fill((int[]) inside(inside(x, "ledger"), "smallest"), 0);
    }

    private static void sound(String what, Shortring x, boolean is) {
        Checks.same("25: " + what, x.isSound(), is);
    }

    private static void nearFromBothSides() throws Exception {
        for (int[] pair : new int[][] {{0, 1}, {1, 0}, {0, 15}, {15, 0}, {14, 15}, {15, 14}, {7, 9}}) {
            Shortring x = made("garden 16");
            near(x)[pair[0]] |= 1 << pair[1];
            sound("NEAR from one side", x, false);
            near(x)[pair[1]] |= 1 << pair[0];
            sound("NEAR from both sides", x, true);
        }
    }

    private static void neverWithOneself() throws Exception {
        for (int knot : new int[] {0, 1, 15}) {
            Shortring x = made("garden 16");
            near(x)[knot] |= 1 << knot;
            sound("NEAR with oneself", x, false);
        }
    }

    private static void noMoreThanTheCount() throws Exception {
        for (int knot : new int[] {0, 7}) {
            Shortring x = made("garden 8; aim 2 3");
            join(x, knot, 3, knot, 4);
            sound("as many as the COUNT of the AIM", x, true);
            join(x, knot, 5);
            sound("more than the COUNT of the AIM", x, false);
            Shortring wider = made("garden 8; aim 3 3");
            join(wider, knot, 3, knot, 4, knot, 5);
            sound("as many as a greater COUNT", wider, true);
            sound("as many without an AIM", made("garden 8; edges " + knot + "-3 " + knot + "-4 " + knot + "-5"), true);
        }
    }

    private static void noShorterRing() throws Exception {
        for (int length = 4; length <= 8; length++) {
            Shortring x = made("garden 16; aim 3 " + length);
            for (int knot = 0; knot < length; knot++) {
                join(x, knot, (knot + 1) % length);
            }
            sound("a RING of the LENGTH of the AIM", x, true);
            join(x, 0, length - 2);
            sound("a RING that is shorter", x, false);
        }
    }

    private static void evenGardens() throws Exception {
        String[] gardens = {"ring 3 2", "ring 8 2", "ring 6 14", "ring 10 42"};
        int[][] told = {{3, 2, 3}, {8, 2, 8}, {6, 5, 3}, {10, 5, 4}};
        for (int i = 0; i < gardens.length; i++) {
            Shortring x = made(gardens[i]);
            forget(x);
            prove(x, told[i][0], told[i][1], told[i][2] + 1);
            sound("an EVEN GARDEN, PROVED not to be for a greater LENGTH", x, true);
            prove(x, told[i][0], told[i][1], told[i][2]);
            sound("an EVEN GARDEN that is RULED OUT", x, false);
            x.edge(0, 1, false);
            sound("one that is not EVEN", x, true);
        }
        Shortring nine = made("ring 9 2");
        prove(nine, 9, 2, 3);
        sound("a LEAST of 9 is none of 3 to 8", nine, true);
        Shortring eight = made("ring 16 4");
        forget(eight);
        prove(eight, 16, 2, 3);
        sound("a LEAST of 8", eight, false);
        Shortring alone = made("ring 16 256");
        prove(alone, 16, 2, 3);
        sound("a COUNT of 1", alone, true);
    }

    private static void tabledGardens() throws Exception {
        String[] gardens = {"ring 3 2", "ring 8 2", "ring 6 14", "ring 10 42", "ring 4 6"};
        int[][] told = {{3, 2, 3}, {8, 2, 8}, {6, 5, 3}, {10, 5, 4}, {4, 3, 3}};
        for (int i = 0; i < gardens.length; i++) {
            Shortring x = made(gardens[i] + "; garden 3");
            prove(x, told[i][0], told[i][1], told[i][2] + 1);
            sound("a SMALLEST, PROVED not to be for a greater LENGTH", x, true);
            prove(x, told[i][0], told[i][1], told[i][2]);
            sound("a SMALLEST that is RULED OUT", x, false);
        }
        Shortring above = made("ring 6 4; garden 3");
        prove(above, 6, 2, 3);
        sound("a SMALLEST that is RULED OUT, but above the NEXT", above, false);
        for (int kind = 0; kind < 24; kind++) {
            Shortring x = made("garden 3");
            int[] smallest = (int[]) inside(inside(x, "ledger"), "smallest");
            int next = x.table(2 + kind / 6, 3 + kind % 6, true);
            for (int place = 0; place < smallest.length; place++) {
                smallest[place] = next;
                if (x.table(2 + kind / 6, 3 + kind % 6, false) == next) {
                    sound("a SMALLEST as great as the NEXT", x, true);
                    smallest[place] = next - 1;
                    sound("a SMALLEST less than the NEXT", x, false);
                }
                smallest[place] = 0;
            }
        }
    }

    private static void digestTellsIt() throws Exception {
        Shortring x = made("ring 4 2; garden 3");
        prove(x, 4, 2, 4);
        sound("a SMALLEST that is RULED OUT", x, false);
        Checks.same("27: 0, if it is not SOUND", x.digest(), PromiseTests.sumOf(x));
    }
}
