/**
 * Gardens of knots and edges without short rings. The promises are those of shared/DOC.md; a set of
 * numbers is held as the sum of 2^k for each number k in it.
 */
public final class Shortring {
    private static final int NONE = -1;
    private static final int FEWEST_KNOTS = 3;
    private static final int MOST_KNOTS = 16;
    private static final int MOST_TO_DOUBLE = 8;
    private static final int MOST_NEAR = 5;
    private static final int MOST_EDGES = MOST_KNOTS * MOST_NEAR / 2;
    private static final int MOST_PAIRS = MOST_KNOTS * (MOST_KNOTS - 1) / 2;
    private static final int LOW_COUNT = 2;
    private static final int HIGH_COUNT = 5;
    private static final int LOW_LENGTH = 3;
    private static final int HIGH_LENGTH = 8;
    private static final int MOST_COUNTED = 7;
    private static final int MOST_RULED = 99;
    private static final int MOST_KEPT = 5;
    private static final int MOST_TURNS = 1000;
    private static final int MOST_STEPS = 400;
    private static final int MOST_SEED = 9999;
    private static final int MOST_ROUNDS = 20;
    private static final int MARKS_TRIED = 6;
    private static final int GOES_ON = 0;
    private static final int FOUND = 1;
    private static final int PROVED = 2;

    private final Net net;
    private final Net scratch;
    private final Net[] kept;
    private final Hunt hunt;
    private final Ledger ledger;
    private final Likeness likeness;
    private final Paint paint;
    private final int[] tally;
    private int keptMany;
    private int refused;

    public Shortring() {
        net = new Net();
        scratch = new Net();
        kept = new Net[MOST_KEPT];
        hunt = new Hunt();
        ledger = new Ledger();
        likeness = new Likeness();
        paint = new Paint();
        tally = new int[MOST_COUNTED + 1];
        keptMany = 0;
        refused = 0;
    }

    // ---- gardens

    public int garden(int knots) throws IllegalArgumentException {
        if (!isWithin(knots, FEWEST_KNOTS, MOST_KNOTS)) {
            throw new IllegalArgumentException("knots is not 3 to 16");
        }
        int before = net.knots;
        net.lay(knots);
        hunt.end();
        ledger.look(net);
        return before;
    }

    public boolean edge(int one, int other, boolean is)
            throws IndexOutOfBoundsException, IllegalArgumentException, IllegalStateException {
        if (!net.isKnot(one) || !net.isKnot(other)) {
            throw new IndexOutOfBoundsException("no such knot");
        }
        if (one == other) {
            throw new IllegalArgumentException("both are the same");
        }
        boolean was = net.isNear(one, other);
        boolean isFull = net.countOf(one) >= MOST_NEAR || net.countOf(other) >= MOST_NEAR;
        if (is && !was && isFull) {
            throw new IllegalStateException("a count would be above 5");
        }
        if (is) {
            net.join(one, other);
        } else {
            net.loosen(one, other);
        }
        hunt.end();
        ledger.look(net);
        return was;
    }

    public int ring(int knots, int jumps) throws IllegalArgumentException {
        if (!isWithin(knots, FEWEST_KNOTS, MOST_KNOTS)) {
            throw new IllegalArgumentException("knots is not 3 to 16");
        }
        int allowed = (bit(knots / 2 + 1) - 1) & ~1;
        if (jumps == 0 || (jumps & ~allowed) != 0) {
            throw new IllegalArgumentException("jumps is no set of 1 to knots / 2");
        }
        if (countByJumps(knots, jumps) > MOST_NEAR) {
            throw new IllegalArgumentException("a count would be above 5");
        }
        layByJumps(knots, jumps);
        hunt.end();
        ledger.look(net);
        return net.edgesInAll();
    }

    public int doubled(int marks) throws IllegalArgumentException, IllegalStateException {
        if (!isSetBelow(marks, net.edgesInAll())) {
            throw new IllegalArgumentException("marks is no set of edges");
        }
        if (!isWithin(net.knots, FEWEST_KNOTS, MOST_TO_DOUBLE)) {
            throw new IllegalStateException("no knots, or more than 8");
        }
        layDouble(marks);
        net.take(scratch);
        hunt.end();
        ledger.look(net);
        return Paths.leastRing(net);
    }

    public boolean swap(int first, int second, boolean isTurned) throws IndexOutOfBoundsException {
        int pair = net.edgeAt(first);
        int pairToo = net.edgeAt(second);
        if (pair == NONE || pairToo == NONE) {
            throw new IndexOutOfBoundsException("no such edge");
        }
        if (!canExchange(pair, turned(pairToo, isTurned))) {
            return false;
        }
        exchange(pair, turned(pairToo, isTurned));
        hunt.end();
        ledger.look(net);
        return true;
    }

    public int mend(int length, int seed, int rounds) throws IllegalArgumentException, IllegalStateException {
        if (!isWithin(length, LOW_LENGTH + 1, HIGH_LENGTH)) {
            throw new IllegalArgumentException("length is not 4 to 8");
        }
        if (!isWithin(seed, 0, MOST_SEED)) {
            throw new IllegalArgumentException("seed is not 0 to 9999");
        }
        if (!isWithin(rounds, 1, MOST_ROUNDS)) {
            throw new IllegalArgumentException("rounds is not 1 to 20");
        }
        if (net.edgesInAll() < 2) {
            throw new IllegalStateException("fewer than two edges");
        }
        int swaps = mendByRounds(length, seed, rounds);
        hunt.end();
        ledger.look(net);
        return swaps;
    }

    // ---- the search

    public int aim(int count, int length) throws IllegalArgumentException, IllegalStateException {
        requireTabled(count, length);
        if (net.knots == 0) {
            throw new IllegalStateException("no knots");
        }
        net.lay(net.knots);
        hunt.begin(count, length);
        ledger.look(net);
        return ledger.why(net.knots, count, length);
    }

    public int grow(int steps) throws IllegalArgumentException, IllegalStateException {
        if (!isWithin(steps, 1, MOST_STEPS)) {
            throw new IllegalArgumentException("steps is not 1 to 400");
        }
        if (!hunt.isOn) {
            throw new IllegalStateException("no aim");
        }
        for (int step = 0; step < steps && hunt.state == GOES_ON; step++) {
            hunt.step(net);
        }
        if (hunt.state == PROVED) {
            ledger.prove(net.knots, hunt.count, hunt.length);
        }
        ledger.look(net);
        return hunt.state;
    }

    public int search(int what) throws IllegalArgumentException {
        if (!isWithin(what, 0, 7)) {
            throw new IllegalArgumentException("what is not 0 to 7");
        }
        if (!hunt.isOn) {
            return NONE;
        }
        switch (what) {
            case 0:
                return hunt.count;
            case 1:
                return hunt.length;
            case 2:
                return hunt.putMany;
            case 3:
                return hunt.barMany;
            case 4:
                return hunt.steps;
            case 5:
                return hunt.state;
            case 6:
                return hunt.nextKnot(net);
            default:
                return hunt.partnerOf(net, hunt.nextKnot(net));
        }
    }

    // ---- what is asked

    public int now(int what) throws IllegalArgumentException {
        if (!isWithin(what, 0, 10)) {
            throw new IllegalArgumentException("what is not 0 to 10");
        }
        switch (what) {
            case 0:
                return net.knots;
            case 1:
                return net.edgesInAll();
            case 2:
                return Paths.partsInAll(net);
            case 3:
                return Paths.leastRing(net);
            case 4:
                return net.evenCount();
            case 5:
                return Paths.width(net);
            case 6:
                return paint.fewest(net);
            case 7:
                return likeness.turnsOf(net);
            case 8:
                return keptMany;
            case 9:
                return net.loneliest();
            default:
                return refused;
        }
    }

    public int ofKnot(int knot, int what) throws IndexOutOfBoundsException, IllegalArgumentException {
        if (!net.isKnot(knot)) {
            throw new IndexOutOfBoundsException("no such knot");
        }
        if (!isWithin(what, 0, 5)) {
            throw new IllegalArgumentException("what is not 0 to 5");
        }
        switch (what) {
            case 0:
                return net.countOf(knot);
            case 1:
                return net.nearOf(knot);
            case 2:
                return Paths.partNumber(net, knot);
            case 3:
                return Paths.leastRingAt(net, knot);
            case 4:
                return Paths.greatestDistance(net, knot);
            default:
                return Integer.bitCount(hunt.joinable(net, knot));
        }
    }

    public int ofEdge(int edge, int what) throws IndexOutOfBoundsException, IllegalArgumentException {
        int pair = net.edgeAt(edge);
        if (pair == NONE) {
            throw new IndexOutOfBoundsException("no such edge");
        }
        if (!isWithin(what, 0, 3)) {
            throw new IllegalArgumentException("what is not 0 to 3");
        }
        switch (what) {
            case 0:
                return oneOf(pair);
            case 1:
                return otherOf(pair);
            case 2:
                // An edge holds a part together just if no ring goes through it.
                return Paths.leastRingBy(net, oneOf(pair), otherOf(pair)) == NONE ? 1 : 0;
            default:
                return Paths.leastRingBy(net, oneOf(pair), otherOf(pair));
        }
    }

    public int far(int one, int other) throws IndexOutOfBoundsException {
        if (!net.isKnot(one) || !net.isKnot(other)) {
            throw new IndexOutOfBoundsException("no such knot");
        }
        return Paths.distance(net, one, other);
    }

    public int rings(int length) throws IllegalArgumentException {
        if (!isWithin(length, LOW_LENGTH, MOST_COUNTED)) {
            throw new IllegalArgumentException("length is not 3 to 7");
        }
        countRings(length);
        return tallied(length);
    }

    public int bound(int count, int length) throws IllegalArgumentException {
        requireTabled(count, length);
        return Ledger.leastKnots(count, length);
    }

    public int ruledOut(int knots, int count, int length) throws IllegalArgumentException {
        if (!isWithin(knots, FEWEST_KNOTS, MOST_RULED)) {
            throw new IllegalArgumentException("knots is not 3 to 99");
        }
        requireTabled(count, length);
        return ledger.why(knots, count, length);
    }

    public int table(int count, int length, boolean isNext) throws IllegalArgumentException {
        requireTabled(count, length);
        return isNext ? ledger.nextOf(count, length) : ledger.smallestOf(count, length);
    }

    public int keep() throws IllegalStateException {
        if (net.knots == 0 || keptMany < 0 || keptMany >= kept.length) {
            throw new IllegalStateException("no knots, or 5 are kept");
        }
        Net copy = new Net();
        copy.take(net);
        int number = keptMany;
        kept[number] = copy;
        keptMany++;
        return number;
    }

    public int back(int kept) throws IndexOutOfBoundsException {
        Net then = keptAt(kept);
        if (then == null) {
            throw new IndexOutOfBoundsException("none is kept there");
        }
        net.take(then);
        hunt.end();
        ledger.look(net);
        return net.edgesInAll();
    }

    public boolean isAlike(int kept) throws IndexOutOfBoundsException {
        Net then = keptAt(kept);
        if (then == null) {
            throw new IndexOutOfBoundsException("none is kept there");
        }
        return likeness.areAlike(net, then);
    }

    // ---- what would be

    public int wouldEdge(int one, int other) throws IndexOutOfBoundsException, IllegalArgumentException {
        if (!net.isKnot(one) || !net.isKnot(other)) {
            throw new IndexOutOfBoundsException("no such knot");
        }
        if (one == other) {
            throw new IllegalArgumentException("both are the same");
        }
        int least = Paths.leastRing(net);
        int distance = Paths.distance(net, one, other);
        if (distance < 2) {
            return least;
        }
        return lesser(least, distance + 1);
    }

    public int bestMarks() throws IllegalStateException {
        if (!isWithin(net.knots, FEWEST_KNOTS, MOST_TO_DOUBLE)) {
            throw new IllegalStateException("no knots, or more than 8");
        }
        int sets = bit(Math.min(MARKS_TRIED, net.edgesInAll()));
        int best = 0;
        int bestLeast = 0;
        for (int marks = 0; marks < sets && bestLeast != NONE; marks++) {
            layDouble(marks);
            int least = Paths.leastRing(scratch);
            if (least == NONE || least > bestLeast) {
                best = marks;
                bestLeast = least;
            }
        }
        return best;
    }

    public String row(int knot) throws IndexOutOfBoundsException {
        if (!net.isKnot(knot)) {
            throw new IndexOutOfBoundsException("no such knot");
        }
        StringBuilder text = new StringBuilder();
        for (int other = 0; other < net.knots; other++) {
            if (other == knot) {
                text.append('o');
            } else {
                text.append(net.isNear(knot, other) ? '#' : '.');
            }
        }
        return text.toString();
    }

    public boolean isSound() {
        return net.isMutual() && isAimSound() && isEvenSound() && ledger.isTableSound();
    }

    public int knock() {
        refused++;
        return refused;
    }

    public long digest() {
        long sum = 9241;
        for (int what = 0; what <= 10; what++) {
            sum = sum * 31 + now(what);
        }
        for (int what = 0; what <= 7; what++) {
            sum = sum * 31 + search(what);
        }
        sum = digestOfKnots(sum);
        sum = digestOfEdges(sum);
        for (int length = LOW_LENGTH; length <= MOST_COUNTED; length++) {
            sum = sum * 31 + rings(length);
        }
        sum = digestOfTable(sum);
        for (int number = 0; number < keptMany; number++) {
            sum = sum * 31 + (isAlike(number) ? 1 : 0);
        }
        return sum * 31 + (isSound() ? 1 : 0);
    }

    // ---- parts of the above

    private void requireTabled(int count, int length) {
        if (!isWithin(count, LOW_COUNT, HIGH_COUNT)) {
            throw new IllegalArgumentException("count is not 2 to 5");
        }
        if (!isWithin(length, LOW_LENGTH, HIGH_LENGTH)) {
            throw new IllegalArgumentException("length is not 3 to 8");
        }
    }

    /** The garden that is kept with a number; null, if none is. */
    private Net keptAt(int number) {
        if (number < 0 || number >= keptMany || number >= kept.length) {
            return null;
        }
        return kept[number];
    }

    private static int countByJumps(int knots, int jumps) {
        int count = 2 * Integer.bitCount(jumps);
        // The jump half around leads to one knot alone, up as well as down.
        boolean hasHalf = knots % 2 == 0 && holds(jumps, knots / 2);
        return hasHalf ? count - 1 : count;
    }

    private void layByJumps(int knots, int jumps) {
        net.lay(knots);
        for (int one = 0; one < knots; one++) {
            for (int other = one + 1; other < knots; other++) {
                int up = other - one;
                if (holds(jumps, Math.min(up, knots - up))) {
                    net.join(one, other);
                }
            }
        }
    }

    /** Lays the double of the garden into the scratch net. */
    private void layDouble(int marks) {
        int knots = net.knots;
        scratch.lay(2 * knots);
        int number = 0;
        for (int one = 0; one < knots; one++) {
            for (int other = one + 1; other < knots; other++) {
                if (net.isNear(one, other)) {
                    boolean isMarked = holds(marks, number);
                    scratch.join(one, isMarked ? other + knots : other);
                    scratch.join(one + knots, isMarked ? other : other + knots);
                    number++;
                }
            }
        }
    }

    private static int turned(int pair, boolean isTurned) {
        return isTurned ? pairOf(otherOf(pair), oneOf(pair)) : pair;
    }

    private boolean canExchange(int pair, int pairToo) {
        int knots = bit(oneOf(pair)) | bit(otherOf(pair)) | bit(oneOf(pairToo)) | bit(otherOf(pairToo));
        return Integer.bitCount(knots) == 4
                && !net.isNear(oneOf(pair), oneOf(pairToo))
                && !net.isNear(otherOf(pair), otherOf(pairToo));
    }

    private void exchange(int pair, int pairToo) {
        net.loosen(oneOf(pair), otherOf(pair));
        net.loosen(oneOf(pairToo), otherOf(pairToo));
        net.join(oneOf(pair), oneOf(pairToo));
        net.join(otherOf(pair), otherOf(pairToo));
    }

    private int mendByRounds(int length, int seed, int rounds) {
        int edges = net.edgesInAll();
        if (edges < 1) {
            return 0;
        }
        int swaps = 0;
        int shorts = shortRings(length);
        int z = seed;
        for (int round = 0; round < rounds; round++) {
            // The mask is the rest modulo 2^31, whatever wrapped around above it.
            z = (z * 1103515245 + 12345) & 0x7fffffff;
            int pair = net.edgeAt(z / 7 % edges);
            int pairToo = turned(net.edgeAt(z / 1024 % edges), z % 2 == 1);
            if (canExchange(pair, pairToo)) {
                scratch.take(net);
                exchange(pair, pairToo);
                int then = shortRings(length);
                if (then < shorts) {
                    shorts = then;
                    swaps++;
                } else {
                    net.take(scratch);
                }
            }
        }
        return swaps;
    }

    private int shortRings(int length) {
        countRings(length - 1);
        int many = 0;
        for (int shorter = LOW_LENGTH; shorter < length; shorter++) {
            many += tallied(shorter);
        }
        return many;
    }

    /** Tallies the rings of each length up to the one that is told. */
    private void countRings(int length) {
        for (int number = 0; number < tally.length; number++) {
            tally[number] = 0;
        }
        for (int start = 0; start < net.knots; start++) {
            walk(net, tally, start, start, bit(start + 1) - 1, 1, length);
        }
    }

    private int tallied(int length) {
        // Each ring is walked along in two directions.
        return length >= 0 && length < tally.length ? tally[length] / 2 : 0;
    }

    /** Goes on with a path of some knots, the first of which is the smallest one, and tallies what closes. */
    private static void walk(Net net, int[] tally, int start, int knot, int closed, int knots, int most) {
        if (knots < 1 || knots >= most || most >= tally.length) {
            return;
        }
        int open = net.nearOf(knot) & ~closed;
        if (knots >= 2) {
            tally[knots + 1] += Integer.bitCount(open & net.nearOf(start));
        }
        if (knots + 1 >= most) {
            return;
        }
        for (int next = start + 1; next < net.knots; next++) {
            if (holds(open, next)) {
                walk(net, tally, start, next, closed | bit(next), knots + 1, most);
            }
        }
    }

    private boolean isAimSound() {
        if (!hunt.isOn) {
            return true;
        }
        for (int knot = 0; knot < net.knots; knot++) {
            if (net.countOf(knot) > hunt.count) {
                return false;
            }
        }
        int least = Paths.leastRing(net);
        return least == NONE || least >= hunt.length;
    }

    private boolean isEvenSound() {
        int count = net.evenCount();
        int least = Paths.leastRing(net);
        if (!isWithin(count, LOW_COUNT, HIGH_COUNT) || !isWithin(least, LOW_LENGTH, HIGH_LENGTH)) {
            return true;
        }
        return ledger.why(net.knots, count, least) == 0;
    }

    private long digestOfKnots(long start) {
        long sum = start;
        for (int knot = 0; knot < net.knots; knot++) {
            for (int what = 0; what <= 5; what++) {
                sum = sum * 31 + ofKnot(knot, what);
            }
        }
        return sum;
    }

    private long digestOfEdges(long start) {
        long sum = start;
        int edges = net.edgesInAll();
        for (int number = 0; number < edges; number++) {
            for (int what = 0; what <= 3; what++) {
                sum = sum * 31 + ofEdge(number, what);
            }
        }
        return sum;
    }

    private long digestOfTable(long start) {
        long sum = start;
        for (int count = LOW_COUNT; count <= HIGH_COUNT; count++) {
            for (int length = LOW_LENGTH; length <= HIGH_LENGTH; length++) {
                sum = sum * 31 + table(count, length, false);
                sum = sum * 31 + table(count, length, true);
            }
        }
        return sum;
    }

    // ---- numbers, sets, pairs

    private static boolean isWithin(int number, int low, int high) {
        return number >= low && number <= high;
    }

    private static int bit(int number) {
        return number >= 0 && number < 31 ? 1 << number : 0;
    }

    private static boolean holds(int set, int number) {
        return number >= 0 && number < 31 && (set >> number & 1) != 0;
    }

    private static boolean isSetBelow(int set, int many) {
        return set >= 0 && (many >= 31 || set < bit(many));
    }

    private static int firstOf(int set) {
        return set == 0 ? NONE : Integer.bitCount((set & -set) - 1);
    }

    /** The lesser of two lengths, where NONE is above all. */
    private static int lesser(int one, int other) {
        if (one == NONE) {
            return other;
        }
        return other == NONE ? one : Math.min(one, other);
    }

    private static int pairOf(int one, int other) {
        return one * MOST_KNOTS + other;
    }

    private static int oneOf(int pair) {
        return pair < 0 ? NONE : pair / MOST_KNOTS;
    }

    private static int otherOf(int pair) {
        return pair < 0 ? NONE : pair % MOST_KNOTS;
    }

    /** The knots of a garden, and for each the set of those that are near. */
    private static final class Net {
        private final int[] near;
        private int knots;

        private Net() {
            near = new int[MOST_KNOTS];
            knots = 0;
        }

        private void lay(int many) {
            knots = many;
            for (int knot = 0; knot < near.length; knot++) {
                near[knot] = 0;
            }
        }

        private void take(Net other) {
            knots = other.knots;
            for (int knot = 0; knot < near.length; knot++) {
                near[knot] = other.nearOf(knot);
            }
        }

        private boolean isKnot(int knot) {
            return knot >= 0 && knot < knots && knot < near.length;
        }

        private int nearOf(int knot) {
            return knot >= 0 && knot < near.length ? near[knot] : 0;
        }

        private boolean isNear(int one, int other) {
            return holds(nearOf(one), other);
        }

        private int countOf(int knot) {
            return Integer.bitCount(nearOf(knot));
        }

        private void join(int one, int other) {
            if (isKnot(one) && isKnot(other) && one != other) {
                near[one] |= bit(other);
                near[other] |= bit(one);
            }
        }

        private void loosen(int one, int other) {
            if (isKnot(one) && isKnot(other)) {
                near[one] &= ~bit(other);
                near[other] &= ~bit(one);
            }
        }

        private int edgesInAll() {
            int ends = 0;
            for (int knot = 0; knot < knots; knot++) {
                ends += countOf(knot);
            }
            return ends / 2;
        }

        /** The pair of knots of an edge, the smaller one first; NONE, if there is no such edge. */
        private int edgeAt(int number) {
            int left = number;
            for (int one = 0; one < knots && left >= 0; one++) {
                int above = nearOf(one) & ~(bit(one + 1) - 1);
                int many = Integer.bitCount(above);
                if (left < many) {
                    return pairOf(one, numberedIn(above, left));
                }
                left -= many;
            }
            return NONE;
        }

        private static int numberedIn(int set, int place) {
            int rest = set;
            for (int skipped = 0; skipped < place; skipped++) {
                rest &= rest - 1;
            }
            return firstOf(rest);
        }

        /** The count that all knots have; NONE, if they are not even. */
        private int evenCount() {
            if (knots == 0) {
                return NONE;
            }
            int count = countOf(0);
            for (int knot = 1; knot < knots; knot++) {
                if (countOf(knot) != count) {
                    return NONE;
                }
            }
            return count;
        }

        private int loneliest() {
            int set = 0;
            int least = MOST_KNOTS;
            for (int knot = 0; knot < knots; knot++) {
                int count = countOf(knot);
                if (count < least) {
                    least = count;
                    set = 0;
                }
                if (count == least) {
                    set |= bit(knot);
                }
            }
            return set;
        }

        private boolean isMutual() {
            for (int one = 0; one < knots; one++) {
                for (int other = 0; other < knots; other++) {
                    boolean isThere = isNear(one, other);
                    if (isThere != isNear(other, one) || isThere && one == other) {
                        return false;
                    }
                }
            }
            return true;
        }
    }

    /** What is found by going from knots to those that are near. */
    private static final class Paths {
        private Paths() {
        }

        /** All that are near to one of a set. */
        private static int around(Net net, int set) {
            int all = 0;
            int rest = set;
            for (int turn = 0; turn < MOST_KNOTS && rest != 0; turn++) {
                // Not by firstOf(): a call more would stand nine deep behind digest().
                int first = Integer.bitCount((rest & -rest) - 1);
                all |= net.nearOf(first);
                rest &= rest - 1;
            }
            return all;
        }

        /** The set of knots with a distance of so many edges at most. */
        private static int within(Net net, int knot, int edges) {
            int seen = bit(knot);
            int brink = seen;
            for (int step = 0; step < edges && brink != 0; step++) {
                brink = around(net, brink) & ~seen;
                seen |= brink;
            }
            return seen;
        }

        private static int partWith(Net net, int knot) {
            return within(net, knot, MOST_KNOTS);
        }

        private static int partsInAll(Net net) {
            int parts = 0;
            int seen = 0;
            for (int knot = 0; knot < net.knots; knot++) {
                if (!holds(seen, knot)) {
                    seen |= partWith(net, knot);
                    parts++;
                }
            }
            return parts;
        }

        private static int partNumber(Net net, int knot) {
            int number = 0;
            int seen = 0;
            for (int first = 0; first < knot; first++) {
                if (!holds(seen, first)) {
                    seen |= partWith(net, first);
                    if (holds(seen, knot)) {
                        return number;
                    }
                    number++;
                }
            }
            return number;
        }

        private static int distance(Net net, int one, int other) {
            int seen = bit(one);
            int brink = seen;
            for (int edges = 0; edges < MOST_KNOTS && brink != 0; edges++) {
                if (holds(brink, other)) {
                    return edges;
                }
                brink = around(net, brink) & ~seen;
                seen |= brink;
            }
            return NONE;
        }

        private static int greatestDistance(Net net, int knot) {
            int seen = bit(knot);
            int brink = seen;
            for (int edges = 0; edges < MOST_KNOTS; edges++) {
                brink = around(net, brink) & ~seen;
                if (brink == 0) {
                    return edges;
                }
                seen |= brink;
            }
            return MOST_KNOTS;
        }

        private static int width(Net net) {
            if (partsInAll(net) != 1) {
                return NONE;
            }
            int width = 0;
            for (int knot = 0; knot < net.knots; knot++) {
                width = Math.max(width, greatestDistance(net, knot));
            }
            return width;
        }

        /** The least length of a ring with the edge of two near knots: the way around that edge, and it. */
        private static int leastRingBy(Net net, int one, int other) {
            int seen = bit(one);
            int brink = net.nearOf(one) & ~bit(other);
            for (int length = LOW_LENGTH; length <= MOST_KNOTS && brink != 0; length++) {
                seen |= brink;
                brink = around(net, brink) & ~seen;
                if (holds(brink, other)) {
                    return length;
                }
            }
            return NONE;
        }

        private static int leastRingAt(Net net, int knot) {
            int least = NONE;
            for (int other = 0; other < net.knots; other++) {
                if (net.isNear(knot, other)) {
                    least = lesser(least, leastRingBy(net, knot, other));
                }
            }
            return least;
        }

        private static int leastRing(Net net) {
            int least = NONE;
            for (int knot = 0; knot < net.knots; knot++) {
                least = lesser(least, leastRingAt(net, knot));
            }
            return least;
        }
    }

    /** The aim, and the search for a garden that keeps to it. */
    private static final class Hunt {
        private final int[] barredWith;
        private final int[] bars;
        private final int[] puts;
        private final int[] barsAtPut;
        private boolean isOn;
        private int count;
        private int length;
        private int steps;
        private int state;
        private int putMany;
        private int barMany;

        private Hunt() {
            barredWith = new int[MOST_KNOTS];
            bars = new int[MOST_PAIRS];
            puts = new int[MOST_EDGES];
            barsAtPut = new int[MOST_EDGES];
            isOn = false;
            state = GOES_ON;
        }

        private void begin(int aimedCount, int aimedLength) {
            isOn = true;
            count = aimedCount;
            length = aimedLength;
            steps = 0;
            state = GOES_ON;
            putMany = 0;
            unbarDownTo(0);
        }

        private void end() {
            isOn = false;
        }

        private void step(Net net) {
            steps++;
            int knot = nextKnot(net);
            if (knot == NONE) {
                state = FOUND;
                return;
            }
            int partner = partnerOf(net, knot);
            if (partner == NONE) {
                goBack(net);
            } else {
                put(net, knot, partner);
            }
        }

        private void put(Net net, int knot, int partner) {
            if (putMany >= 0 && putMany < puts.length && putMany < barsAtPut.length) {
                puts[putMany] = pairOf(knot, partner);
                barsAtPut[putMany] = barMany;
                putMany++;
                net.join(knot, partner);
            }
        }

        private void goBack(Net net) {
            int last = putMany - 1;
            if (last < 0 || last >= puts.length || last >= barsAtPut.length) {
                unbarDownTo(0);
                state = PROVED;
                return;
            }
            putMany = last;
            net.loosen(oneOf(puts[last]), otherOf(puts[last]));
            unbarDownTo(barsAtPut[last]);
            bar(puts[last]);
        }

        private void bar(int pair) {
            if (barMany >= 0 && barMany < bars.length) {
                bars[barMany] = pair;
                barMany++;
                flipBar(oneOf(pair), otherOf(pair));
            }
        }

        private void unbarDownTo(int many) {
            for (int number = barMany - 1; number >= many; number--) {
                if (number >= 0 && number < bars.length) {
                    flipBar(oneOf(bars[number]), otherOf(bars[number]));
                    barMany = number;
                }
            }
        }

        private void flipBar(int one, int other) {
            if (one >= 0 && one < barredWith.length && other >= 0 && other < barredWith.length) {
                barredWith[one] ^= bit(other);
                barredWith[other] ^= bit(one);
            }
        }

        /** The knots that still need edges. */
        private int needy(Net net) {
            int set = 0;
            for (int knot = 0; knot < net.knots; knot++) {
                if (net.countOf(knot) < count) {
                    set |= bit(knot);
                }
            }
            return set;
        }

        private int joinableOf(Net net, int knot, int needy) {
            if (!holds(needy, knot) || knot < 0 || knot >= barredWith.length) {
                return 0;
            }
            return needy & ~Paths.within(net, knot, length - 2) & ~barredWith[knot];
        }

        /** The knots to which one may be joined; none without an aim. */
        private int joinable(Net net, int knot) {
            return isOn ? joinableOf(net, knot, needy(net)) : 0;
        }

        private int nextKnot(Net net) {
            if (state != GOES_ON) {
                return NONE;
            }
            int needy = needy(net);
            int best = NONE;
            int fewest = MOST_KNOTS;
            for (int knot = 0; knot < net.knots; knot++) {
                if (holds(needy, knot)) {
                    int many = Integer.bitCount(joinableOf(net, knot, needy));
                    if (many < fewest) {
                        fewest = many;
                        best = knot;
                    }
                }
            }
            return best;
        }

        /** The knot to which one is joined by the next step; NONE, if it would go back. */
        private int partnerOf(Net net, int knot) {
            if (knot == NONE) {
                return NONE;
            }
            int open = joinableOf(net, knot, needy(net));
            int needed = count - net.countOf(knot);
            return Integer.bitCount(open) >= needed ? firstOf(open) : NONE;
        }
    }

    /** The bounds, what was proved, and the smallest gardens that there were. */
    private static final class Ledger {
        private static final int HIGHEST_NEXT = 999;

        private final int[] leastProved;
        private final int[] smallest;

        private Ledger() {
            leastProved = new int[(MOST_KNOTS + 1) * (HIGH_COUNT + 1)];
            smallest = new int[(HIGH_COUNT + 1) * (HIGH_LENGTH + 1)];
        }

        private static int leastKnots(int count, int length) {
            int power = 1;
            int sum = 0;
            int powers = length / 2;
            for (int number = 0; number < powers; number++) {
                sum += power;
                power *= count - 1;
            }
            return length % 2 == 1 ? 1 + count * sum : 2 * sum;
        }

        private int why(int knots, int count, int length) {
            if (knots % 2 == 1 && count % 2 == 1) {
                return 1;
            }
            if (knots < leastKnots(count, length)) {
                return 2;
            }
            return isProved(knots, count, length) ? 3 : 0;
        }

        /** Where what was proved for so many knots is told; NONE, if no garden has so many. */
        private int proofPlace(int knots, int count) {
            boolean isTold = isWithin(knots, 0, MOST_KNOTS) && isWithin(count, LOW_COUNT, HIGH_COUNT);
            int place = knots * (HIGH_COUNT + 1) + count;
            return isTold && place >= 0 && place < leastProved.length ? place : NONE;
        }

        private boolean isProved(int knots, int count, int length) {
            int place = proofPlace(knots, count);
            if (place == NONE) {
                return false;
            }
            // 0 says that nothing was proved.
            int least = leastProved[place];
            return least > 0 && least <= length;
        }

        private void prove(int knots, int count, int length) {
            int place = proofPlace(knots, count);
            if (place != NONE && !isProved(knots, count, length)) {
                leastProved[place] = length;
            }
        }

        /** Where the smallest garden is told; NONE, if the table has no such count or length. */
        private int tablePlace(int count, int length) {
            boolean isTold = isWithin(count, LOW_COUNT, HIGH_COUNT) && isWithin(length, LOW_LENGTH, HIGH_LENGTH);
            int place = count * (HIGH_LENGTH + 1) + length;
            return isTold && place >= 0 && place < smallest.length ? place : NONE;
        }

        /** To be called behind every call that may have changed the garden. */
        private void look(Net net) {
            int count = net.evenCount();
            if (!isWithin(count, LOW_COUNT, HIGH_COUNT)) {
                return;
            }
            int place = tablePlace(count, Paths.leastRing(net));
            if (place != NONE && (smallest[place] == 0 || net.knots < smallest[place])) {
                smallest[place] = net.knots;
            }
        }

        private int smallestOf(int count, int length) {
            int place = tablePlace(count, length);
            return place == NONE || smallest[place] == 0 ? NONE : smallest[place];
        }

        private int nextOf(int count, int length) {
            for (int knots = FEWEST_KNOTS; knots <= HIGHEST_NEXT; knots++) {
                if (why(knots, count, length) == 0) {
                    return knots;
                }
            }
            return NONE;
        }

        private boolean isTableSound() {
            for (int count = LOW_COUNT; count <= HIGH_COUNT; count++) {
                for (int length = LOW_LENGTH; length <= HIGH_LENGTH; length++) {
                    int knots = smallestOf(count, length);
                    boolean isKnown = knots != NONE;
                    if (isKnown && (why(knots, count, length) != 0 || knots < nextOf(count, length))) {
                        return false;
                    }
                }
            }
            return true;
        }
    }

    /** In how many ways the knots of one net can be numbered as those of another one, part by part. */
    private static final class Likeness {
        private final Net from;
        private final Net to;
        private final int[] image;
        private int placed;

        private Likeness() {
            from = new Net();
            to = new Net();
            image = new int[MOST_KNOTS];
            placed = 0;
        }

        /**
         * Parts that are alike may change places, and each may turn into itself: so the ways of each part
         * count once, times how many of those up to it are alike to it.
         */
        private int turnsOf(Net net) {
            if (net.knots == 0) {
                return 0;
            }
            from.take(net);
            to.take(net);
            int turns = 1;
            int seen = 0;
            for (int knot = 0; knot < from.knots; knot++) {
                if (!holds(seen, knot)) {
                    int part = Paths.partWith(from, knot);
                    int places = 1 + partsLike(part, seen);
                    turns = Math.min(MOST_TURNS, turns * places);
                    turns = Math.min(MOST_TURNS, turns * waysOf(part, part, MOST_TURNS));
                    seen |= part;
                }
            }
            return turns;
        }

        /** How many parts in a set of whole parts are alike to one. */
        private int partsLike(int part, int among) {
            int many = 0;
            int left = among;
            for (int knot = 0; knot < to.knots; knot++) {
                if (holds(left, knot)) {
                    int other = Paths.partWith(to, knot);
                    many += waysOf(part, other, 1);
                    left &= ~other;
                }
            }
            return many;
        }

        private boolean areAlike(Net one, Net other) {
            if (one.knots != other.knots || one.edgesInAll() != other.edgesInAll()) {
                return false;
            }
            from.take(one);
            to.take(other);
            int seen = 0;
            int left = bit(to.knots) - 1;
            for (int knot = 0; knot < from.knots; knot++) {
                if (!holds(seen, knot)) {
                    int part = Paths.partWith(from, knot);
                    int match = partMatching(part, left);
                    if (match == 0) {
                        return false;
                    }
                    seen |= part;
                    left &= ~match;
                }
            }
            return left == 0;
        }

        /** A part in a set of whole parts that is alike to one; 0, if none is. */
        private int partMatching(int part, int among) {
            int left = among;
            for (int knot = 0; knot < to.knots; knot++) {
                if (holds(left, knot)) {
                    int other = Paths.partWith(to, knot);
                    if (waysOf(part, other, 1) > 0) {
                        return other;
                    }
                    left &= ~other;
                }
            }
            return 0;
        }

        private int waysOf(int part, int other, int most) {
            if (Integer.bitCount(part) != Integer.bitCount(other)) {
                return 0;
            }
            placed = 0;
            return ways(this, part, other, most, 0);
        }

        /** In how many ways what is left to place fits into what is free; no more than the most. */
        private static int ways(Likeness like, int left, int free, int most, int depth) {
            if (left == 0) {
                return 1;
            }
            if (depth >= MOST_KNOTS) {
                return 0;
            }
            int knot = like.nextToPlace(left);
            int fit = like.fitting(knot, free);
            int many = 0;
            for (int place = 0; place < like.to.knots && many < most; place++) {
                if (holds(fit, place)) {
                    like.place(knot, place);
                    many += ways(like, left & ~bit(knot), free & ~bit(place), most - many, depth + 1);
                    like.placed &= ~bit(knot);
                }
            }
            return many;
        }

        private void place(int knot, int place) {
            if (knot >= 0 && knot < image.length) {
                image[knot] = place;
                placed |= bit(knot);
            }
        }

        /** The knot with the most near ones that are placed: it leaves the fewest ways open. */
        private int nextToPlace(int left) {
            int best = NONE;
            int most = NONE;
            for (int knot = 0; knot < from.knots; knot++) {
                int many = Integer.bitCount(from.nearOf(knot) & placed);
                if (holds(left, knot) && many > most) {
                    most = many;
                    best = knot;
                }
            }
            return best;
        }

        private int fitting(int knot, int free) {
            int nearFrom = from.nearOf(knot);
            int count = Integer.bitCount(nearFrom);
            int fit = 0;
            for (int place = 0; place < to.knots; place++) {
                if (holds(free, place) && Integer.bitCount(to.nearOf(place)) == count) {
                    fit |= bit(place);
                }
            }
            for (int other = 0; other < image.length; other++) {
                if (holds(placed, other)) {
                    int nearTo = to.nearOf(image[other]);
                    fit &= holds(nearFrom, other) ? nearTo : ~nearTo;
                }
            }
            return fit;
        }
    }

    /** Numbers for knots, so that near ones have unlike ones. */
    private static final class Paint {
        private final int[] hues;

        private Paint() {
            hues = new int[MOST_NEAR + 1];
        }

        private int fewest(Net net) {
            int many = 0;
            int seen = 0;
            for (int knot = 0; knot < net.knots; knot++) {
                if (!holds(seen, knot)) {
                    int part = Paths.partWith(net, knot);
                    many = fewestOf(net, part, Math.max(many, 1));
                    seen |= part;
                }
            }
            return many;
        }

        private int fewestOf(Net net, int part, int low) {
            for (int many = low; many < hues.length; many++) {
                for (int hue = 0; hue < hues.length; hue++) {
                    hues[hue] = 0;
                }
                if (canPaint(net, hues, part, many, 0)) {
                    return many;
                }
            }
            // One hue more than any knot has near ones is always enough.
            return hues.length;
        }

        private static boolean canPaint(Net net, int[] hues, int bare, int many, int depth) {
            if (bare == 0) {
                return true;
            }
            if (depth >= MOST_KNOTS) {
                return false;
            }
            int knot = hardest(net, hues, bare);
            for (int hue = 0; hue < many && hue < hues.length; hue++) {
                if ((hues[hue] & net.nearOf(knot)) != 0) {
                    continue;
                }
                boolean isNew = hues[hue] == 0;
                hues[hue] |= bit(knot);
                if (canPaint(net, hues, bare & ~bit(knot), many, depth + 1)) {
                    return true;
                }
                hues[hue] &= ~bit(knot);
                if (isNew) {
                    // All hues that are not used yet would do the same.
                    return false;
                }
            }
            return false;
        }

        /** The bare knot that sees the most hues. */
        private static int hardest(Net net, int[] hues, int bare) {
            int best = NONE;
            int most = NONE;
            for (int knot = 0; knot < net.knots; knot++) {
                if (holds(bare, knot)) {
                    int sees = 0;
                    for (int hue = 0; hue < hues.length; hue++) {
                        sees += (hues[hue] & net.nearOf(knot)) != 0 ? 1 : 0;
                    }
                    if (sees > most) {
                        most = sees;
                        best = knot;
                    }
                }
            }
            return best;
        }
    }
}
