/** For each promise of the document: ordinary inputs, the edges that it names, and wrong inputs. */
final class PromiseTests {
    private static final String INDEX = "IndexOutOfBoundsException";
    private static final String ARGUMENT = "IllegalArgumentException";
    private static final String STATE = "IllegalStateException";
    private static final int[] FAR_OFF = {-1, Integer.MIN_VALUE, Integer.MAX_VALUE};

    private PromiseTests() {
    }

    static void run() {
        newObject();
        garden();
        edge();
        ring();
        doubled();
        swap();
        mend();
        aim();
        grow();
        search();
        now();
        ofKnot();
        ofEdge();
        far();
        rings();
        bound();
        ruledOut();
        table();
        keep();
        back();
        isAlike();
        wouldEdge();
        bestMarks();
        row();
        isSound();
        knock();
        digest();
    }

    private static void due(String what, Object got, Object want) {
        Checks.same(what, got, want);
    }

    private static Shortring cycle(int knots) {
        Shortring x = new Shortring();
        x.ring(knots, 2);
        return x;
    }

    private static Shortring petersen() {
        Shortring x = new Shortring();
        x.garden(10);
        for (int i = 0; i < 5; i++) {
            x.edge(i, (i + 1) % 5, true);
            x.edge(i, i + 5, true);
            x.edge(5 + i, 5 + (i + 2) % 5, true);
        }
        return x;
    }

    private static void lay(Shortring x, int knots, int... ends) {
        x.garden(knots);
        for (int i = 0; i + 1 < ends.length; i += 2) {
            x.edge(ends[i], ends[i + 1], true);
        }
    }

    private static void newObject() {
        Shortring x = new Shortring();
        int[] nows = {0, 0, 0, -1, -1, -1, 0, 0, 0, 0, 0};
        for (int what = 0; what < nows.length; what++) {
            due("1: now(" + what + ") of a new object", x.now(what), nows[what]);
        }
        for (int what = 0; what <= 7; what++) {
            due("1: search(" + what + ") of a new object", x.search(what), -1);
        }
        due("1: rings", x.rings(7), 0);
        due("1: isSound", x.isSound(), true);
        due("1: table", x.table(2, 3, false), -1);
        due("1: next", x.table(2, 3, true), 3);
        Checks.refused("1: no knot yet", INDEX, () -> x.ofKnot(0, 0));
        Checks.refused("1: no edge yet", INDEX, () -> x.ofEdge(0, 9));
        due("1: one object knows nothing of another one", cycle(4).now(0) + x.now(0), 4);
    }

    private static void garden() {
        Shortring x = new Shortring();
        due("2: first", x.garden(3), 0);
        due("2: second", x.garden(16), 3);
        due("2: knots", x.now(0), 16);
        x.edge(0, 1, true);
        x.keep();
        x.aim(2, 3);
        due("2: third", x.garden(16), 16);
        due("2: no edges", x.now(1), 0);
        due("2: the aim is gone", x.search(0), -1);
        due("2: what is kept stays", x.now(8), 1);
        for (int wrong : new int[] {2, 17, 0, -1, Integer.MIN_VALUE, Integer.MAX_VALUE}) {
            Checks.refused("2: garden(" + wrong + ")", ARGUMENT, () -> x.garden(wrong));
        }
        x.aim(2, 3);
        Checks.refused("2: garden(2)", ARGUMENT, () -> x.garden(2));
        due("2: a throw changes nothing", x.search(0), 2);
    }

    private static void edge() {
        Shortring x = new Shortring();
        Checks.refused("3: no garden", INDEX, () -> x.edge(0, 0, true));
        x.garden(7);
        due("3: was not", x.edge(3, 0, true), false);
        due("3: was", x.edge(0, 3, true), true);
        due("3: from both sides", x.ofKnot(0, 1) * 1000 + x.ofKnot(3, 1), 8001);
        due("3: taken out", x.edge(0, 3, false), true);
        due("3: was taken out", x.edge(3, 0, false), false);
        due("3: none", x.now(1), 0);
        for (int other = 1; other <= 5; other++) {
            x.edge(0, other, true);
        }
        x.keep();
        Checks.refused("3: count above 5", STATE, () -> x.edge(0, 6, true));
        Checks.refused("3: count above 5 of the other", STATE, () -> x.edge(6, 0, true));
        due("3: no more than before", x.edge(0, 5, true), true);
        due("3: nothing to take", x.edge(0, 6, false), false);
        Checks.refused("3: the same", ARGUMENT, () -> x.edge(0, 0, true));
        Checks.refused("3: the same, taken out", ARGUMENT, () -> x.edge(6, 6, false));
        Checks.refused("3: no such knot, ahead of the same", INDEX, () -> x.edge(7, 7, true));
        for (int wrong : FAR_OFF) {
            Checks.refused("3: one " + wrong, INDEX, () -> x.edge(wrong, 0, true));
            Checks.refused("3: other " + wrong, INDEX, () -> x.edge(0, wrong, false));
        }
        due("3: nothing changed", x.isAlike(0) && x.now(1) == 5, true);
        x.aim(2, 4);
        Checks.refused("3: the same", ARGUMENT, () -> x.edge(1, 1, true));
        due("3: the aim stays behind a throw", x.search(0), 2);
        x.edge(0, 1, false);
        due("3: the aim is gone, though no edge was there", x.search(0), -1);
    }

    private static void ring() {
        Shortring x = new Shortring();
        due("4: the smallest", x.ring(3, 2), 3);
        due("4: half around is one edge a pair", x.ring(6, 8), 3);
        due("4: all of 4", x.ring(4, 6), 6);
        due("4: 5 a knot", x.ring(16, 2 | 4 | 256), 40);
        due("4: count", x.now(4), 5);
        due("4: row", x.row(0), "o##.....#.....##");
        due("4: all of 6", x.ring(6, 14), 15);
        x.ring(16, 16);
        due("4: parts", x.now(2), 4);
        due("4: edge", x.far(3, 15), 1);
        int[][] wrong = {{2, 2}, {17, 2}, {-1, 2}, {8, 0}, {8, 1}, {8, 3}, {8, 32}, {8, 34}, {7, 16}, {3, 4},
            {16, 2 | 4 | 8}, {16, 512}, {8, -2}, {16, Integer.MIN_VALUE}, {Integer.MAX_VALUE, 2},
            {16, Integer.MAX_VALUE}, {7, 14}, {10, 2 | 4 | 8}};
        for (int[] w : wrong) {
            Checks.refused("4: ring(" + w[0] + ", " + w[1] + ")", ARGUMENT, () -> x.ring(w[0], w[1]));
        }
        due("4: nothing changed", x.now(0), 16);
        x.aim(2, 3);
        x.ring(5, 4);
        due("4: the aim is gone", x.search(0), -1);
        due("4: jumps by 2 of 5", x.row(0), "o.##.");
    }

    private static void doubled() {
        Shortring x = new Shortring();
        Checks.refused("5: no edges, ahead of no knots", ARGUMENT, () -> x.doubled(1));
        Checks.refused("5: no knots", STATE, () -> x.doubled(0));
        x.ring(5, 2);
        x.keep();
        Checks.refused("5: no such edge", ARGUMENT, () -> x.doubled(32));
        Checks.refused("5: below 0", ARGUMENT, () -> x.doubled(-1));
        Checks.refused("5: far below 0", ARGUMENT, () -> x.doubled(Integer.MIN_VALUE));
        due("5: no marks", x.doubled(0), 5);
        due("5: two parts", x.now(2), 2);
        x.back(0);
        due("5: three marks", x.doubled(1 | 4 | 16), 10);
        due("5: row of a marked edge", x.row(0), "o...#.#...");
        due("5: row of the twin", x.row(5), ".#...o...#");
        Checks.refused("5: more than 8", STATE, () -> x.doubled(0));
        Checks.refused("5: wrong marks, ahead of more than 8", ARGUMENT, () -> x.doubled(1024));
        x.ring(16, 2 | 4 | 256);
        Checks.refused("5: any set of the first 31 of 40", STATE, () -> x.doubled(Integer.MAX_VALUE));
        Checks.refused("5: no set", ARGUMENT, () -> x.doubled(-1));
        x.garden(8);
        x.aim(2, 3);
        Checks.refused("5: no edges", ARGUMENT, () -> x.doubled(1));
        due("5: the aim stays behind a throw", x.search(0), 2);
        due("5: no ring", x.doubled(0), -1);
        due("5: 16 knots", x.now(0), 16);
        due("5: the aim is gone", x.search(0), -1);
        x.ring(4, 6);
        due("5: all marked", x.doubled(63), 4);
        due("5: all marked is even sided", x.now(6), 2);
    }

    private static void swap() {
        Shortring x = new Shortring();
        Checks.refused("6: no edges", INDEX, () -> x.swap(0, 0, false));
        lay(x, 6, 0, 1, 2, 3);
        due("6: not turned", x.swap(0, 1, false), true);
        due("6: a and c", x.row(0) + x.row(1), "o.#....o.#..");
        lay(x, 6, 0, 1, 2, 3);
        due("6: turned", x.swap(0, 1, true), true);
        due("6: a and the greater one", x.row(0) + x.row(1), "o..#...o#...");
        lay(x, 6, 0, 1, 2, 3);
        due("6: the other way around", x.swap(1, 0, true), true);
        due("6: c is the greater one", x.row(2) + x.row(3), ".#o...#..o..");
        lay(x, 6, 0, 1, 0, 2, 2, 3);
        due("6: a and c are near", x.swap(0, 2, false), false);
        due("6: the same edge", x.swap(1, 1, true), false);
        due("6: a knot twice", x.swap(0, 1, true), false);
        lay(x, 6, 0, 1, 1, 3, 2, 3);
        due("6: b and d are near", x.swap(0, 2, false), false);
        due("6: turned they are not", x.swap(0, 2, true), true);
        for (int wrong : FAR_OFF) {
            Checks.refused("6: first " + wrong, INDEX, () -> x.swap(wrong, 0, true));
            Checks.refused("6: second " + wrong, INDEX, () -> x.swap(0, wrong, true));
        }
        Checks.refused("6: one too many", INDEX, () -> x.swap(0, 3, true));
        x.garden(6);
        x.aim(2, 3);
        x.grow(4);
        due("6: can not", x.swap(0, 0, false), false);
        due("6: the aim stays", x.search(0), 2);
        x.garden(8);
        x.aim(2, 5);
        x.grow(400);
        due("6: can", x.swap(0, 7, false) || x.swap(0, 7, true), true);
        due("6: the aim is gone", x.search(0), -1);
    }

    private static void mend() {
        Shortring x = new Shortring();
        Checks.refused("7: no knots", STATE, () -> x.mend(4, 0, 1));
        x.garden(5);
        x.edge(0, 1, true);
        Checks.refused("7: one edge", STATE, () -> x.mend(4, 0, 1));
        int[][] wrong = {{3, 0, 1}, {9, 0, 1}, {4, -1, 1}, {4, 10000, 1}, {4, 0, 0}, {4, 0, 21},
            {Integer.MIN_VALUE, 0, 1}, {4, Integer.MAX_VALUE, 1}, {4, 0, Integer.MAX_VALUE}};
        for (int[] w : wrong) {
            Checks.refused("7: mend of " + w[0] + ", " + w[1] + ", " + w[2], ARGUMENT,
                    () -> x.mend(w[0], w[1], w[2]));
        }
        x.edge(2, 3, true);
        due("7: nothing to mend", x.mend(8, 9999, 20), 0);
        x.aim(2, 3);
        x.grow(2);
        due("7: two edges are enough", x.mend(4, 0, 1), 0);
        due("7: the aim is gone", x.search(0), -1);
        int all = 0;
        for (int seed = 0; seed < 60; seed++) {
            all += mendingOf(seed);
        }
        due("7: some were mended", all > 20, true);
    }

    /** Rounds one by one, by the words of section 4, against all rounds in one call. */
    private static int mendingOf(int seed) {
        Shortring x = new Shortring();
        x.ring(12, 2 | 4);
        int shorts = x.rings(3) + x.rings(4);
        long z = seed;
        int kept = 0;
        x.keep();
        for (int round = 0; round < 12; round++) {
            z = (z * 1103515245L + 12345L) % 2147483648L;
            Shortring y = new Shortring();
            copy(x, y);
            if (y.swap((int) (z / 7 % 24), (int) (z / 1024 % 24), z % 2 == 1) && y.rings(3) + y.rings(4) < shorts) {
                shorts = y.rings(3) + y.rings(4);
                copy(y, x);
                kept++;
            }
        }
        Shortring one = new Shortring();
        one.ring(12, 2 | 4);
        due("7: swaps kept with the seed " + seed, one.mend(5, seed, 12), kept);
        due("7: the garden with the seed " + seed, text(one), text(x));
        return kept;
    }

    private static String text(Shortring x) {
        StringBuilder text = new StringBuilder();
        for (int knot = 0; knot < x.now(0); knot++) {
            text.append(x.row(knot));
        }
        return text.toString();
    }

    private static void copy(Shortring from, Shortring to) {
        to.garden(from.now(0));
        for (int number = 0; number < from.now(1); number++) {
            to.edge(from.ofEdge(number, 0), from.ofEdge(number, 1), true);
        }
    }

    private static void aim() {
        Shortring x = new Shortring();
        Checks.refused("8: no knots", STATE, () -> x.aim(2, 3));
        Checks.refused("8: count, ahead of no knots", ARGUMENT, () -> x.aim(1, 3));
        x.ring(5, 2);
        int[][] wrong = {{1, 3}, {6, 3}, {2, 2}, {2, 9}, {Integer.MIN_VALUE, 3}, {2, Integer.MAX_VALUE}};
        for (int[] w : wrong) {
            Checks.refused("8: aim(" + w[0] + ", " + w[1] + ")", ARGUMENT, () -> x.aim(w[0], w[1]));
        }
        due("8: nothing changed", x.now(1) + x.search(0), 4);
        due("8: odd", x.aim(3, 3), 1);
        due("8: edges are gone", x.now(1), 0);
        due("8: knots stay", x.now(0), 5);
        due("8: too few, the aim is there", x.aim(2, 6) * 10 + x.search(1), 26);
        due("8: not ruled out", x.aim(2, 5), 0);
        x.garden(3);
        due("8: odd is told first", x.aim(5, 8), 1);
        due("8: too few", x.aim(4, 3), 2);
        x.garden(9);
        x.aim(4, 4);
        for (int i = 0; i < 100; i++) {
            x.grow(400);
        }
        due("8: proved", x.aim(4, 4), 3);
        due("8: begins anew all the same", x.search(5) * 100 + x.search(4) + x.search(3) + x.search(2), 0);
        due("8: for a shorter length", x.aim(4, 3), 0);
        due("8: too few is told ahead of proved", x.aim(4, 5), 2);
    }

    private static void grow() {
        Shortring x = new Shortring();
        Checks.refused("9: no aim", STATE, () -> x.grow(1));
        Checks.refused("9: steps, ahead of no aim", ARGUMENT, () -> x.grow(0));
        x.garden(4);
        Checks.refused("9: still no aim", STATE, () -> x.grow(1));
        x.aim(3, 3);
        for (int wrong : new int[] {0, 401, -1, Integer.MIN_VALUE, Integer.MAX_VALUE}) {
            Checks.refused("9: grow(" + wrong + ")", ARGUMENT, () -> x.grow(wrong));
        }
        due("9: six edges", x.grow(6), 0);
        due("9: all edges are there", x.now(1), 6);
        due("9: the step that sees it", x.grow(1), 1);
        due("9: none behind it", x.grow(400) * 100 + x.search(4), 107);
        x.aim(2, 5);
        due("9: proved", x.grow(400), 2);
        due("9: still proved", x.grow(1), 2);
        due("9: no edges", x.now(1), 0);
        Shortring a = new Shortring();
        Shortring b = new Shortring();
        a.garden(9);
        b.garden(9);
        a.aim(4, 4);
        b.aim(4, 4);
        a.grow(300);
        for (int i = 0; i < 300; i++) {
            b.grow(1);
        }
        due("9: stopped and gone on with", a.digest(), b.digest());
    }

    private static void search() {
        Shortring x = new Shortring();
        for (int wrong : new int[] {-1, 8, Integer.MIN_VALUE, Integer.MAX_VALUE}) {
            Checks.refused("10: search(" + wrong + ")", ARGUMENT, () -> x.search(wrong));
        }
        x.garden(4);
        x.aim(2, 5);
        due("10: as it begins", searches(x), "2 5 0 0 0 0 0 1 ");
        x.grow(1);
        due("10: 0 may be joined to both others", searches(x), "2 5 1 0 1 0 0 2 ");
        x.grow(1);
        due("10: would go back", searches(x), "2 5 2 0 2 0 1 3 ");
        x.grow(1);
        due("10: both ends are near too soon", searches(x), "2 5 3 0 3 0 2 -1 ");
        x.grow(1);
        due("10: went back", searches(x), "2 5 2 1 4 0 1 -1 ");
        x.grow(1);
        due("10: what was barred since is not any more", searches(x), "2 5 1 1 5 0 0 3 ");
        x.grow(400);
        due("10: proved", x.search(5) + " " + x.search(6) + " " + x.search(7) + " " + x.search(3), "2 -1 -1 0");
        x.keep();
        due("10: keep() leaves the aim", x.search(0), 2);
        x.back(0);
        due("10: no aim", searches(x), "-1 -1 -1 -1 -1 -1 -1 -1 ");
    }

    private static String searches(Shortring x) {
        StringBuilder text = new StringBuilder();
        for (int what = 0; what <= 7; what++) {
            text.append(x.search(what)).append(' ');
        }
        return text.toString();
    }

    private static String nows(Shortring x) {
        StringBuilder text = new StringBuilder();
        for (int what = 0; what <= 10; what++) {
            text.append(x.now(what)).append(' ');
        }
        return text.toString();
    }

    private static void now() {
        Shortring x = new Shortring();
        for (int wrong : new int[] {-1, 11, Integer.MIN_VALUE, Integer.MAX_VALUE}) {
            Checks.refused("11: now(" + wrong + ")", ARGUMENT, () -> x.now(wrong));
        }
        x.garden(3);
        due("11: three alone", nows(x), "3 0 3 -1 0 -1 1 6 0 7 0 ");
        x.edge(0, 2, true);
        due("11: not even", nows(x), "3 1 2 -1 -1 -1 2 2 0 2 0 ");
        x.knock();
        x.edge(0, 1, true);
        due("11: a path", nows(x), "3 2 1 -1 -1 2 2 2 0 6 1 ");
        x.keep();
        x.edge(1, 2, true);
        due("11: a triangle", nows(x), "3 3 1 3 2 1 3 6 1 7 1 ");
        x.garden(16);
        due("11: 1000 turns at most", x.now(7), 1000);
        due("11: all have the least count", x.now(9), 65535);
        x.ring(16, 2);
        due("11: a long ring", nows(x), "16 16 1 16 2 8 2 32 1 65535 1 ");
        due("11: petersen", nows(petersen()), "10 15 1 5 3 2 3 120 0 1023 0 ");
        x.ring(6, 14);
        due("11: six colours, 720 turns", x.now(6) * 1000 + x.now(7), 6720);
        x.ring(16, 16);
        due("11: four squares", x.now(7), 1000);
        lay(x, 9, 0, 1, 1, 2, 2, 0, 3, 4, 4, 5, 5, 3);
        due("11: two triangles, three alone", x.now(7), 6 * 6 * 2 * 6);
    }

    private static void ofKnot() {
        Shortring x = new Shortring();
        lay(x, 8, 0, 1, 1, 2, 2, 0, 2, 3, 4, 5);
        int[][] want = {{2, 6, 0, 3, 2, 0}, {2, 5, 0, 3, 2, 0}, {3, 11, 0, 3, 1, 0}, {1, 4, 0, -1, 2, 0},
            {1, 32, 1, -1, 1, 0}, {1, 16, 1, -1, 1, 0}, {0, 0, 2, -1, 0, 0}, {0, 0, 3, -1, 0, 0}};
        for (int knot = 0; knot < want.length; knot++) {
            for (int what = 0; what <= 5; what++) {
                due("12: ofKnot(" + knot + ", " + what + ")", x.ofKnot(knot, what), want[knot][what]);
            }
        }
        for (int wrong : FAR_OFF) {
            Checks.refused("12: knot " + wrong, INDEX, () -> x.ofKnot(wrong, 9));
            Checks.refused("12: what " + wrong, ARGUMENT, () -> x.ofKnot(0, wrong));
        }
        Checks.refused("12: knot 8", INDEX, () -> x.ofKnot(8, 0));
        Checks.refused("12: what 6", ARGUMENT, () -> x.ofKnot(7, 6));
        x.aim(2, 4);
        due("12: may be joined to all others", x.ofKnot(0, 5), 7);
        x.grow(2);
        due("12: has all that it needs", x.ofKnot(0, 5), 0);
        due("12: not to one near, nor to one at 2 of 4", x.ofKnot(1, 5), 5);
        x.garden(4);
        x.aim(2, 5);
        x.grow(400);
        due("12: nothing is barred behind a proof", x.ofKnot(0, 5), 3);
        x.garden(4);
        due("12: no aim", x.ofKnot(0, 5), 0);
    }

    private static void ofEdge() {
        Shortring x = new Shortring();
        lay(x, 8, 2, 3, 4, 5, 2, 0, 1, 2, 0, 1);
        int[][] want = {{0, 1, 0, 3}, {0, 2, 0, 3}, {1, 2, 0, 3}, {2, 3, 1, -1}, {4, 5, 1, -1}};
        for (int number = 0; number < want.length; number++) {
            for (int what = 0; what <= 3; what++) {
                due("13: ofEdge(" + number + ", " + what + ")", x.ofEdge(number, what), want[number][what]);
            }
        }
        for (int wrong : FAR_OFF) {
            Checks.refused("13: edge " + wrong, INDEX, () -> x.ofEdge(wrong, 9));
            Checks.refused("13: what " + wrong, ARGUMENT, () -> x.ofEdge(0, wrong));
        }
        Checks.refused("13: edge 5", INDEX, () -> x.ofEdge(5, 0));
        Checks.refused("13: what 4", ARGUMENT, () -> x.ofEdge(4, 4));
        x.ring(16, 2 | 4 | 256);
        due("13: the last of 40", x.ofEdge(39, 0) * 100 + x.ofEdge(39, 1), 1415);
    }

    private static void far() {
        Shortring x = new Shortring();
        Checks.refused("14: no knots", INDEX, () -> x.far(0, 0));
        x.ring(16, 2);
        due("14: half around", x.far(0, 8), 8);
        due("14: the short way", x.far(15, 1), 2);
        due("14: the same", x.far(3, 3), 0);
        x.edge(0, 15, false);
        due("14: the long way", x.far(15, 0), 15);
        x.edge(7, 8, false);
        due("14: none", x.far(0, 8), -1);
        for (int wrong : new int[] {-1, 16, Integer.MIN_VALUE, Integer.MAX_VALUE}) {
            Checks.refused("14: one " + wrong, INDEX, () -> x.far(wrong, 0));
            Checks.refused("14: other " + wrong, INDEX, () -> x.far(0, wrong));
        }
    }

    private static void rings() {
        Shortring x = petersen();
        int[] want = {0, 0, 0, 0, 0, 12, 10, 0};
        for (int length = 3; length <= 7; length++) {
            due("15: petersen, " + length, x.rings(length), want[length]);
        }
        x.ring(6, 14);
        int[] all = {0, 0, 0, 20, 45, 72, 60, 0};
        for (int length = 3; length <= 7; length++) {
            due("15: all of 6, " + length, x.rings(length), all[length]);
        }
        x.ring(7, 2);
        due("15: one of 7", x.rings(7), 1);
        for (int wrong : new int[] {2, 8, -1, 0, Integer.MIN_VALUE, Integer.MAX_VALUE}) {
            Checks.refused("15: rings(" + wrong + ")", ARGUMENT, () -> x.rings(wrong));
        }
    }

    private static void bound() {
        Shortring x = new Shortring();
        int[][] want = {{3, 4, 5, 6, 7, 8}, {4, 6, 10, 14, 22, 30}, {5, 8, 17, 26, 53, 80}, {6, 10, 26, 42, 106, 170}};
        for (int count = 2; count <= 5; count++) {
            for (int length = 3; length <= 8; length++) {
                due("16: bound(" + count + ", " + length + ")", x.bound(count, length), want[count - 2][length - 3]);
            }
        }
        for (int wrong : new int[] {1, 6, -1, Integer.MIN_VALUE, Integer.MAX_VALUE}) {
            Checks.refused("16: count " + wrong, ARGUMENT, () -> x.bound(wrong, 3));
        }
        for (int wrong : new int[] {2, 9, -1, Integer.MIN_VALUE, Integer.MAX_VALUE}) {
            Checks.refused("16: length " + wrong, ARGUMENT, () -> x.bound(2, wrong));
        }
    }

    private static void ruledOut() {
        Shortring x = new Shortring();
        due("17: odd, ahead of too few", x.ruledOut(3, 3, 8), 1);
        due("17: too few", x.ruledOut(4, 3, 4), 2);
        due("17: not", x.ruledOut(6, 3, 4), 0);
        due("17: 99", x.ruledOut(99, 2, 8), 0);
        due("17: 98 are too few for 5 and 7", x.ruledOut(98, 5, 7), 2);
        int[][] wrong = {{2, 2, 3}, {100, 2, 3}, {3, 1, 3}, {3, 6, 3}, {3, 2, 2}, {3, 2, 9},
            {Integer.MIN_VALUE, 2, 3}, {Integer.MAX_VALUE, 2, 3}, {3, Integer.MAX_VALUE, 3}, {3, 2, Integer.MIN_VALUE}};
        for (int[] w : wrong) {
            Checks.refused("17: ruledOut(" + w[0] + ", " + w[1] + ", " + w[2] + ")", ARGUMENT,
                    () -> x.ruledOut(w[0], w[1], w[2]));
        }
        x.garden(9);
        x.aim(4, 4);
        for (int i = 0; i < 100; i++) {
            x.grow(400);
        }
        x.garden(3);
        due("17: proved stays", x.ruledOut(9, 4, 4), 3);
        due("17: not for less", x.ruledOut(9, 4, 3), 0);
        due("17: not for other counts", x.ruledOut(9, 2, 4), 0);
        due("17: not for other knots", x.ruledOut(10, 4, 4), 0);
    }

    private static void table() {
        Shortring x = new Shortring();
        for (int wrong : new int[] {1, 6, Integer.MIN_VALUE, Integer.MAX_VALUE}) {
            Checks.refused("18: count " + wrong, ARGUMENT, () -> x.table(wrong, 3, true));
        }
        for (int wrong : new int[] {2, 9, Integer.MIN_VALUE, Integer.MAX_VALUE}) {
            Checks.refused("18: length " + wrong, ARGUMENT, () -> x.table(2, wrong, false));
        }
        due("18: next of 5 and 8", x.table(5, 8, true), 170);
        due("18: next of an odd bound", x.table(5, 7, true), 106);
        due("18: next of 4 and 5", x.table(4, 5, true), 17);
        x.ring(8, 2);
        due("18: smallest", x.table(2, 8, false), 8);
        due("18: of another length", x.table(2, 7, false), -1);
        x.ring(9, 2);
        due("18: above 8 is not told", x.table(2, 8, false), 8);
        x.ring(12, 8);
        due("18: three squares", x.table(2, 4, false), 12);
        x.ring(8, 4);
        due("18: two squares", x.table(2, 4, false), 8);
        x.ring(12, 8);
        due("18: the smallest stays", x.table(2, 4, false), 8);
        x.garden(4);
        x.aim(2, 3);
        x.grow(400);
        due("18: a garden behind grow()", x.table(2, 4, false), 4);
        x.ring(3, 2);
        x.doubled(7);
        due("18: behind doubled()", x.table(2, 6, false), 6);
        lay(x, 6, 0, 1, 1, 2, 2, 0, 3, 4, 4, 5);
        due("18: not even yet", x.table(2, 3, false), 3);
        lay(x, 10, 0, 1, 1, 2, 2, 3, 3, 4, 4, 0, 5, 6, 6, 7, 7, 8, 8, 9);
        due("18: one edge is wanting", x.table(2, 5, false), -1);
        x.edge(9, 5, true);
        due("18: behind edge()", x.table(2, 5, false), 10);
        Shortring y = new Shortring();
        lay(y, 7, 0, 1, 1, 2, 2, 0, 3, 4, 4, 5, 5, 6, 6, 3);
        due("18: a ring of 7 is not there", y.table(2, 7, false), -1);
        due("18: swapped", y.swap(0, 3, false) && y.table(2, 7, false) == 7, true);
        due("18: behind mend()", tableBehindMending(), 6);
        Shortring p = proved();
        due("18: proved is ruled out", p.ruledOut(10, 5, 4) + p.table(5, 4, true), 10);
    }

    /** Two triangles, mended to one ring of 6 by the first seed that does it. */
    private static int tableBehindMending() {
        for (int seed = 0; seed < 50; seed++) {
            Shortring x = new Shortring();
            x.ring(6, 4);
            if (x.mend(4, seed, 5) == 1) {
                due("7: two triangles were mended", x.now(3), 6);
                return x.table(2, 6, false);
            }
        }
        return -2;
    }

    private static Shortring proved() {
        Shortring x = new Shortring();
        x.garden(4);
        x.aim(2, 5);
        x.grow(400);
        return x;
    }

    private static void keep() {
        Shortring x = new Shortring();
        Checks.refused("19: no knots", STATE, x::keep);
        x.ring(5, 2);
        for (int number = 0; number < 5; number++) {
            due("19: number", x.keep(), number);
            due("19: so many", x.now(8), number + 1);
        }
        Checks.refused("19: five", STATE, x::keep);
        x.edge(0, 1, false);
        due("19: a copy is kept", x.isAlike(0), false);
        due("19: kept as it was", x.back(0), 5);
    }

    private static void back() {
        Shortring x = new Shortring();
        Checks.refused("20: none", INDEX, () -> x.back(0));
        x.ring(5, 2);
        x.keep();
        x.garden(7);
        x.aim(2, 3);
        for (int wrong : new int[] {-1, 1, 5, Integer.MIN_VALUE, Integer.MAX_VALUE}) {
            Checks.refused("20: back(" + wrong + ")", INDEX, () -> x.back(wrong));
        }
        due("20: the aim stays behind a throw", x.search(0), 2);
        due("20: edges", x.back(0), 5);
        due("20: knots", x.now(0), 5);
        due("20: the aim is gone", x.search(0), -1);
        x.edge(0, 1, false);
        due("20: what is kept stays so", x.back(0), 5);
        due("20: it stays kept", x.now(8), 1);
    }

    private static void isAlike() {
        Shortring x = new Shortring();
        Checks.refused("21: none", INDEX, () -> x.isAlike(0));
        x.ring(8, 2 | 16);
        x.keep();
        x.ring(8, 4 | 16);
        x.keep();
        due("21: itself", x.isAlike(1), true);
        due("21: other parts", x.isAlike(0), false);
        x.ring(8, 8 | 16);
        due("21: numbered otherwise", x.isAlike(0), true);
        x.ring(7, 2);
        due("21: fewer knots", x.isAlike(0), false);
        lay(x, 6, 0, 1, 1, 2, 2, 3, 3, 4, 4, 5, 5, 0);
        x.keep();
        lay(x, 6, 0, 1, 1, 2, 2, 0, 3, 4, 4, 5, 5, 3);
        due("21: all counts are the same, the rings are not", x.isAlike(2), false);
        lay(x, 6, 0, 3, 3, 1, 1, 5, 5, 2, 2, 4, 4, 0);
        due("21: a ring in disorder", x.isAlike(2), true);
        lay(x, 9, 0, 1, 2, 3, 3, 4, 5, 6, 6, 7, 7, 5);
        x.keep();
        lay(x, 9, 8, 7, 6, 5, 5, 4, 3, 2, 2, 1, 1, 3);
        due("21: parts in another order", x.isAlike(3), true);
        x.edge(0, 1, true);
        due("21: an edge more", x.isAlike(3), false);
        for (int wrong : new int[] {-1, 4, 5, Integer.MIN_VALUE, Integer.MAX_VALUE}) {
            Checks.refused("21: isAlike(" + wrong + ")", INDEX, () -> x.isAlike(wrong));
        }
    }

    private static void wouldEdge() {
        Shortring x = new Shortring();
        Checks.refused("22: no knots", INDEX, () -> x.wouldEdge(0, 0));
        lay(x, 9, 0, 1, 1, 2, 2, 3, 3, 4, 4, 5, 5, 6);
        due("22: none yet", x.wouldEdge(0, 8), -1);
        due("22: near already", x.wouldEdge(0, 1), -1);
        due("22: a ring of 3", x.wouldEdge(0, 2), 3);
        due("22: a ring of 7", x.wouldEdge(6, 0), 7);
        x.edge(0, 3, true);
        due("22: the least is another one", x.wouldEdge(0, 6), 4);
        due("22: shorter", x.wouldEdge(0, 2), 3);
        due("22: near already, of 4", x.wouldEdge(0, 3), 4);
        due("22: another part", x.wouldEdge(8, 7), 4);
        due("22: nothing changed", x.now(1), 7);
        x.ring(6, 14);
        due("22: counts do not matter", x.wouldEdge(0, 5), 3);
        Checks.refused("22: the same", ARGUMENT, () -> x.wouldEdge(2, 2));
        Checks.refused("22: no such knot, ahead of the same", INDEX, () -> x.wouldEdge(6, 6));
        for (int wrong : FAR_OFF) {
            Checks.refused("22: one " + wrong, INDEX, () -> x.wouldEdge(wrong, 0));
            Checks.refused("22: other " + wrong, INDEX, () -> x.wouldEdge(0, wrong));
        }
    }

    private static void bestMarks() {
        Shortring x = new Shortring();
        Checks.refused("23: no knots", STATE, x::bestMarks);
        x.garden(9);
        Checks.refused("23: more than 8", STATE, x::bestMarks);
        x.garden(8);
        due("23: no edges", x.bestMarks(), 0);
        x.ring(5, 2);
        due("23: one mark makes one ring of 10", x.bestMarks(), 1);
        due("23: nothing changed", x.now(0), 5);
        x.ring(8, 2);
        due("23: of 8", x.bestMarks(), 1);
        x.edge(0, 1, false);
        due("23: none is the greatest", x.bestMarks(), 0);
        x.ring(4, 6);
        due("23: all of 4", x.bestMarks(), bestByTrial(x));
        x.ring(8, 2 | 16);
        due("23: of the first 6", x.bestMarks(), bestByTrial(x));
        x.ring(7, 4 | 8);
        due("23: of the first 6, too", x.bestMarks(), bestByTrial(x));
    }

    private static int bestByTrial(Shortring x) {
        int best = 0;
        int most = -1;
        for (int marks = 0; marks < 64; marks++) {
            Shortring y = new Shortring();
            copy(x, y);
            int least = y.doubled(marks);
            least = least == -1 ? 99 : least;
            if (least > most) {
                most = least;
                best = marks;
            }
        }
        return best;
    }

    private static void row() {
        Shortring x = new Shortring();
        Checks.refused("24: no knots", INDEX, () -> x.row(0));
        x.garden(3);
        due("24: alone", x.row(1), ".o.");
        x.edge(1, 2, true);
        due("24: near", x.row(1), ".o#");
        due("24: from the other side", x.row(2), ".#o");
        x.ring(16, 2 | 256);
        due("24: 16 signs", x.row(15), "#......#......#o");
        for (int wrong : new int[] {-1, 16, Integer.MIN_VALUE, Integer.MAX_VALUE}) {
            Checks.refused("24: row(" + wrong + ")", INDEX, () -> x.row(wrong));
        }
    }

    private static void isSound() {
        Shortring x = petersen();
        due("25: petersen", x.isSound(), true);
        x.aim(3, 5);
        for (int i = 0; i < 60; i++) {
            x.grow(1);
            due("25: step " + i, x.isSound(), true);
        }
        due("25: behind a proof", proved().isSound(), true);
    }

    private static void knock() {
        Shortring x = new Shortring();
        due("26: first", x.knock(), 1);
        due("26: second", x.knock(), 2);
        x.garden(5);
        due("26: counted", x.now(10), 2);
        due("26: third", x.knock(), 3);
        due("26: another gate", new Shortring().knock(), 1);
    }

    private static void digest() {
        Shortring x = new Shortring();
        due("27: a new object", x.digest(), sumOf(x));
        x.garden(4);
        x.aim(3, 3);
        x.grow(3);
        x.keep();
        due("27: in a search", x.digest(), sumOf(x));
        x.knock();
        due("27: of two that are kept", sumOf(petersenKept()), petersenKept().digest());
        long before = x.digest();
        due("27: what is asked changes nothing", x.digest(), before);
    }

    private static Shortring petersenKept() {
        Shortring x = petersen();
        x.keep();
        x.edge(0, 1, false);
        x.keep();
        return x;
    }

    static long sumOf(Shortring x) {
        long d = 9241;
        for (int what = 0; what <= 10; what++) {
            d = d * 31 + x.now(what);
        }
        for (int what = 0; what <= 7; what++) {
            d = d * 31 + x.search(what);
        }
        for (int i = 0; i < x.now(0) * 6; i++) {
            d = d * 31 + x.ofKnot(i / 6, i % 6);
        }
        for (int i = 0; i < x.now(1) * 4; i++) {
            d = d * 31 + x.ofEdge(i / 4, i % 4);
        }
        for (int length = 3; length <= 7; length++) {
            d = d * 31 + x.rings(length);
        }
        for (int i = 0; i < 48; i++) {
            d = d * 31 + x.table(2 + i / 12, 3 + i / 2 % 6, i % 2 == 1);
        }
        for (int i = 0; i < x.now(8); i++) {
            d = d * 31 + (x.isAlike(i) ? 1 : 0);
        }
        return d * 31 + (x.isSound() ? 1 : 0);
    }
}
