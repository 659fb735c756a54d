import java.util.ArrayList;
import java.util.Arrays;
import java.util.HashSet;
import java.util.List;
import java.util.Set;

/**
 * The document once more, in the plainest words and by other ways than the program's: tables of distances,
 * copies of sets, sums over all subsets. It is slow, and there to be compared with.
 */
public final class PlainModel {
    private static final int NONE = -1;
    private int n = 0;
    private boolean[][] near = new boolean[0][0];
    private final List<boolean[][]> kept = new ArrayList<>();
    private int refused = 0;
    private final Set<String> proved = new HashSet<>();
    private final int[][] smallest = new int[6][9];
    private boolean aimed = false;
    private int k, g, steps, end;
    private List<int[]> puts = new ArrayList<>();
    private List<Set<Integer>> barredAtPut = new ArrayList<>();
    private Set<Integer> barred = new HashSet<>();

    public PlainModel() {
        for (int[] row : smallest) {
            Arrays.fill(row, NONE);
        }
    }

    // ---- ways to look at a garden

    private static int[][] distances(boolean[][] near) {
        int n = near.length;
        int[][] d = new int[n][n];
        for (int a = 0; a < n; a++) {
            for (int b = 0; b < n; b++) {
                d[a][b] = a == b ? 0 : near[a][b] ? 1 : 1000;
            }
        }
        for (int m = 0; m < n; m++) {
            for (int a = 0; a < n; a++) {
                for (int b = 0; b < n; b++) {
                    d[a][b] = Math.min(d[a][b], d[a][m] + d[m][b]);
                }
            }
        }
        return d;
    }

    private static int degree(boolean[][] near, int a) {
        int many = 0;
        for (boolean is : near[a]) {
            many += is ? 1 : 0;
        }
        return many;
    }

    private static List<int[]> edges(boolean[][] near) {
        List<int[]> all = new ArrayList<>();
        for (int a = 0; a < near.length; a++) {
            for (int b = a + 1; b < near.length; b++) {
                if (near[a][b]) {
                    all.add(new int[] {a, b});
                }
            }
        }
        return all;
    }

    private static boolean[][] copy(boolean[][] near) {
        boolean[][] all = new boolean[near.length][];
        for (int a = 0; a < near.length; a++) {
            all[a] = near[a].clone();
        }
        return all;
    }

    private static int ringBy(boolean[][] near, int a, int b) {
        boolean[][] cut = copy(near);
        cut[a][b] = false;
        cut[b][a] = false;
        int d = distances(cut)[a][b];
        return d >= 1000 ? NONE : d + 1;
    }

    private static int least(boolean[][] near) {
        int least = 1000;
        for (int[] e : edges(near)) {
            int r = ringBy(near, e[0], e[1]);
            least = r == NONE ? least : Math.min(least, r);
        }
        return least == 1000 ? NONE : least;
    }

    private static int[] partOf(boolean[][] near) {
        int[][] d = distances(near);
        int[] part = new int[near.length];
        int parts = 0;
        for (int a = 0; a < near.length; a++) {
            part[a] = NONE;
            for (int b = 0; b < a; b++) {
                if (d[a][b] < 1000) {
                    part[a] = part[b];
                }
            }
            if (part[a] == NONE) {
                part[a] = parts++;
            }
        }
        return part;
    }

    private static int parts(boolean[][] near) {
        int most = NONE;
        for (int p : partOf(near)) {
            most = Math.max(most, p);
        }
        return most + 1;
    }

    private static int even(boolean[][] near) {
        for (int a = 0; a < near.length; a++) {
            if (degree(near, a) != degree(near, 0)) {
                return NONE;
            }
        }
        return near.length == 0 ? NONE : degree(near, 0);
    }

    private static int ringsOf(boolean[][] near, int length) {
        int many = 0;
        for (int a = 0; a < near.length; a++) {
            many += closings(near, new int[length], 0, a);
        }
        return many;
    }

    private static int closings(boolean[][] near, int[] way, int at, int knot) {
        for (int i = 0; i < at; i++) {
            if (way[i] == knot || i == 0 && knot < way[0]) {
                return 0;
            }
        }
        way[at] = knot;
        if (at == way.length - 1) {
            return near[knot][way[0]] && way[1] < knot ? 1 : 0;
        }
        int many = 0;
        for (int b = 0; b < near.length; b++) {
            if (near[knot][b]) {
                many += closings(near, way, at + 1, b);
            }
        }
        return many;
    }

    /** By inclusion and exclusion over all sets of knots, modulo two primes. */
    private static int colours(boolean[][] near) {
        int n = near.length;
        for (int c = 0; c <= n; c++) {
            if (coverings(near, c, 1_000_000_007L) != 0 || coverings(near, c, 998_244_353L) != 0) {
                return c;
            }
        }
        throw new AssertionError();
    }

    private static long coverings(boolean[][] near, int c, long prime) {
        int n = near.length;
        long[] free = new long[1 << n];
        free[0] = 1;
        long sum = 0;
        for (int set = 0; set < 1 << n; set++) {
            if (set != 0) {
                int low = Integer.numberOfTrailingZeros(set);
                int rest = set & ~(1 << low);
                int without = rest;
                for (int b = 0; b < n; b++) {
                    if (near[low][b]) {
                        without &= ~(1 << b);
                    }
                }
                free[set] = (free[rest] + free[without]) % prime;
            }
            long power = 1;
            for (int i = 0; i < c; i++) {
                power = power * free[set] % prime;
            }
            sum += (n - Integer.bitCount(set)) % 2 == 0 ? power : prime - power;
        }
        return sum % prime;
    }

    /** In how many ways one garden is numbered as the other one: a numbering that keeps all distances. */
    private static int numberings(boolean[][] one, boolean[][] other, int most) {
        int[][] d = distances(one);
        int[][] e = distances(other);
        if (!profiles(d).equals(profiles(e))) {
            return 0;
        }
        List<Integer> order = numbers(0, d.length - 1);
        // Those that reach many come first: else it takes too long to see that they fit nowhere.
        order.sort((a, b) -> Long.compare(Arrays.stream(d[a]).asLongStream().sum(),
                Arrays.stream(d[b]).asLongStream().sum()));
        return numberings(d, e, order, new int[d.length], 0, most);
    }

    private static List<String> profiles(int[][] d) {
        List<String> all = new ArrayList<>();
        for (int[] row : d) {
            all.add(profile(row));
        }
        all.sort(null);
        return all;
    }

    private static String profile(int[] row) {
        int[] sorted = row.clone();
        Arrays.sort(sorted);
        return Arrays.toString(sorted);
    }

    private static int numberings(int[][] d, int[][] e, List<Integer> order, int[] image, int at, int most) {
        if (at == image.length) {
            return 1;
        }
        int knot = order.get(at);
        String profile = profile(d[knot]);
        int many = 0;
        for (int to = 0; to < image.length && many < most; to++) {
            boolean fits = true;
            for (int i = 0; i < at && fits; i++) {
                int b = order.get(i);
                fits = image[b] != to && d[knot][b] == e[to][image[b]];
            }
            if (fits && profile.equals(profile(e[to]))) {
                image[knot] = to;
                many += numberings(d, e, order, image, at + 1, most - many);
            }
        }
        return many;
    }

    // ---- parts of the calls

    private void changed(boolean isAimGone) {
        if (isAimGone) {
            aimed = false;
        }
        int c = even(near);
        int l = least(near);
        if (c >= 2 && c <= 5 && l >= 3 && l <= 8 && (smallest[c][l] == NONE || n < smallest[c][l])) {
            smallest[c][l] = n;
        }
    }

    private static boolean isSet(int set, List<Integer> members) {
        long left = set;
        for (int m : members) {
            if (m < 31 && (set >> m & 1) != 0) {
                left -= 1L << m;
            }
        }
        return set >= 0 && left == 0;
    }

    private static boolean[][] doubleOf(boolean[][] near, int marks) {
        int n = near.length;
        boolean[][] two = new boolean[2 * n][2 * n];
        int number = 0;
        for (int[] e : edges(near)) {
            boolean m = number < 31 && (marks >> number & 1) != 0;
            int[][] pairs = m ? new int[][] {{e[0], e[1] + n}, {e[0] + n, e[1]}}
                    : new int[][] {{e[0], e[1]}, {e[0] + n, e[1] + n}};
            for (int[] p : pairs) {
                two[p[0]][p[1]] = true;
                two[p[1]][p[0]] = true;
            }
            number++;
        }
        return two;
    }

    /** The garden with two edges swapped; null, if that can not be. */
    private static boolean[][] swapped(boolean[][] near, int first, int second, boolean isTurned) {
        int[] p = edges(near).get(first);
        int[] q = edges(near).get(second);
        int a = p[0];
        int b = p[1];
        int c = isTurned ? q[1] : q[0];
        int d = isTurned ? q[0] : q[1];
        if (a == c || a == d || b == c || b == d || near[a][c] || near[b][d]) {
            return null;
        }
        boolean[][] then = copy(near);
        then[a][b] = then[b][a] = then[c][d] = then[d][c] = false;
        then[a][c] = then[c][a] = then[b][d] = then[d][b] = true;
        return then;
    }

    private static int shorts(boolean[][] near, int length) {
        int many = 0;
        for (int l = 3; l < length; l++) {
            many += ringsOf(near, l);
        }
        return many;
    }

    private List<Integer> joinable(int knot, int[][] d) {
        List<Integer> all = new ArrayList<>();
        for (int b = 0; b < n; b++) {
            boolean isFar = d[knot][b] >= 1000 || d[knot][b] >= g - 1;
            if (b != knot && degree(near, b) < k && degree(near, knot) < k && !near[knot][b] && isFar
                    && !barred.contains(Math.min(knot, b) * 100 + Math.max(knot, b))) {
                all.add(b);
            }
        }
        return all;
    }

    private int looksAt() {
        int[][] d = distances(near);
        int best = NONE;
        for (int a = 0; a < n && end == 0; a++) {
            if (degree(near, a) < k && (best == NONE || joinable(a, d).size() < joinable(best, d).size())) {
                best = a;
            }
        }
        return best;
    }

    private int joins(int knot) {
        if (knot == NONE) {
            return NONE;
        }
        List<Integer> to = joinable(knot, distances(near));
        return to.size() >= k - degree(near, knot) ? to.get(0) : NONE;
    }

    private void step() {
        steps++;
        int a = looksAt();
        int b = joins(a);
        if (a == NONE) {
            end = 1;
        } else if (b != NONE) {
            near[a][b] = near[b][a] = true;
            puts.add(new int[] {Math.min(a, b), Math.max(a, b)});
            barredAtPut.add(new HashSet<>(barred));
        } else if (puts.isEmpty()) {
            barred.clear();
            end = 2;
            proved.add(n + " " + k + " " + g);
        } else {
            int[] p = puts.remove(puts.size() - 1);
            near[p[0]][p[1]] = near[p[1]][p[0]] = false;
            barred = barredAtPut.remove(barredAtPut.size() - 1);
            barred.add(p[0] * 100 + p[1]);
        }
    }

    private int why(int knots, int count, int length) {
        if (knots * count % 2 != 0) {
            return 1;
        }
        if (knots < bound(count, length)) {
            return 2;
        }
        for (int l = 3; l <= length; l++) {
            if (proved.contains(knots + " " + count + " " + l)) {
                return 3;
            }
        }
        return 0;
    }

    private static void need(boolean is) {
        if (!is) {
            throw new IllegalArgumentException();
        }
    }

    private static void needState(boolean is) {
        if (!is) {
            throw new IllegalStateException();
        }
    }

    private static void needThere(boolean is) {
        if (!is) {
            throw new IndexOutOfBoundsException();
        }
    }

    private boolean isKnot(int a) {
        return a >= 0 && a < n;
    }

    private static List<Integer> numbers(int low, int high) {
        List<Integer> all = new ArrayList<>();
        for (int i = low; i <= high; i++) {
            all.add(i);
        }
        return all;
    }

    private static void needTabled(int count, int length) {
        need(count >= 2 && count <= 5);
        need(length >= 3 && length <= 8);
    }

    // ---- the calls

    public int garden(int knots) {
        need(knots >= 3 && knots <= 16);
        int before = n;
        n = knots;
        near = new boolean[n][n];
        changed(true);
        return before;
    }

    public boolean edge(int one, int other, boolean is) {
        needThere(isKnot(one) && isKnot(other));
        need(one != other);
        boolean was = near[one][other];
        boolean[][] then = copy(near);
        then[one][other] = then[other][one] = is;
        needState(degree(then, one) <= 5 && degree(then, other) <= 5);
        near = then;
        changed(true);
        return was;
    }

    public int ring(int knots, int jumps) {
        need(knots >= 3 && knots <= 16);
        need(isSet(jumps, numbers(1, knots / 2)) && jumps != 0);
        boolean[][] then = new boolean[knots][knots];
        for (int a = 0; a < knots; a++) {
            for (int j = 1; j <= knots / 2; j++) {
                if ((jumps >> j & 1) != 0) {
                    then[a][(a + j) % knots] = true;
                    then[a][(a - j + knots) % knots] = true;
                }
            }
        }
        need(degree(then, 0) <= 5);
        n = knots;
        near = then;
        changed(true);
        return edges(near).size();
    }

    public int doubled(int marks) {
        need(isSet(marks, numbers(0, edges(near).size() - 1)));
        needState(n > 0 && n <= 8);
        near = doubleOf(near, marks);
        n *= 2;
        changed(true);
        return least(near);
    }

    public boolean swap(int first, int second, boolean isTurned) {
        int m = edges(near).size();
        needThere(first >= 0 && first < m && second >= 0 && second < m);
        boolean[][] then = swapped(near, first, second, isTurned);
        if (then == null) {
            return false;
        }
        near = then;
        changed(true);
        return true;
    }

    public int mend(int length, int seed, int rounds) {
        need(length >= 4 && length <= 8 && seed >= 0 && seed <= 9999 && rounds >= 1 && rounds <= 20);
        int m = edges(near).size();
        needState(m >= 2);
        int many = 0;
        long z = seed;
        for (int i = 0; i < rounds; i++) {
            z = (z * 1103515245L + 12345L) % (1L << 31);
            boolean[][] then = swapped(near, (int) (z / 7 % m), (int) (z / 1024 % m), z % 2 != 0);
            if (then != null && shorts(then, length) < shorts(near, length)) {
                near = then;
                many++;
            }
        }
        changed(true);
        return many;
    }

    public int aim(int count, int length) {
        needTabled(count, length);
        needState(n > 0);
        near = new boolean[n][n];
        aimed = true;
        k = count;
        g = length;
        steps = 0;
        end = 0;
        puts = new ArrayList<>();
        barredAtPut = new ArrayList<>();
        barred = new HashSet<>();
        changed(false);
        return why(n, count, length);
    }

    public int grow(int many) {
        need(many >= 1 && many <= 400);
        needState(aimed);
        for (int i = 0; i < many && end == 0; i++) {
            step();
        }
        changed(false);
        return end;
    }

    public int search(int what) {
        need(what >= 0 && what <= 7);
        if (!aimed) {
            return NONE;
        }
        return new int[] {k, g, puts.size(), barred.size(), steps, end, looksAt(), joins(looksAt())}[what];
    }

    public int now(int what) {
        need(what >= 0 && what <= 10);
        if (what == 0) {
            return n;
        }
        if (what == 1) {
            return edges(near).size();
        }
        if (what == 2) {
            return parts(near);
        }
        if (what == 3) {
            return least(near);
        }
        if (what == 4) {
            return even(near);
        }
        if (what == 5) {
            return width();
        }
        if (what == 6) {
            return n == 0 ? 0 : colours(near);
        }
        if (what == 7) {
            return n == 0 ? 0 : numberings(near, near, 1000);
        }
        return what == 8 ? kept.size() : what == 9 ? fewest() : refused;
    }

    private int width() {
        if (parts(near) != 1) {
            return NONE;
        }
        int most = 0;
        for (int[] row : distances(near)) {
            for (int d : row) {
                most = Math.max(most, d);
            }
        }
        return most;
    }

    private int fewest() {
        int set = 0;
        int least = 1000;
        for (int a = 0; a < n; a++) {
            least = Math.min(least, degree(near, a));
        }
        for (int a = 0; a < n; a++) {
            set += degree(near, a) == least ? 1 << a : 0;
        }
        return set;
    }

    public int ofKnot(int knot, int what) {
        needThere(isKnot(knot));
        need(what >= 0 && what <= 5);
        int set = 0;
        int ring = 1000;
        int most = 0;
        for (int b = 0; b < n; b++) {
            if (near[knot][b]) {
                set += 1 << b;
                int r = ringBy(near, knot, b);
                ring = r == NONE ? ring : Math.min(ring, r);
            }
            int d = distances(near)[knot][b];
            most = d >= 1000 ? most : Math.max(most, d);
        }
        int open = aimed ? joinable(knot, distances(near)).size() : 0;
        return new int[] {degree(near, knot), set, partOf(near)[knot], ring == 1000 ? NONE : ring, most, open}[what];
    }

    public int ofEdge(int edge, int what) {
        List<int[]> all = edges(near);
        needThere(edge >= 0 && edge < all.size());
        need(what >= 0 && what <= 3);
        int[] e = all.get(edge);
        boolean[][] cut = copy(near);
        cut[e[0]][e[1]] = cut[e[1]][e[0]] = false;
        return new int[] {e[0], e[1], parts(cut) - parts(near), ringBy(near, e[0], e[1])}[what];
    }

    public int far(int one, int other) {
        needThere(isKnot(one) && isKnot(other));
        int d = distances(near)[one][other];
        return d >= 1000 ? NONE : d;
    }

    public int rings(int length) {
        need(length >= 3 && length <= 7);
        return ringsOf(near, length);
    }

    public int bound(int count, int length) {
        needTabled(count, length);
        int sum = 0;
        for (int i = 0; i <= (length % 2 == 1 ? (length - 3) / 2 : length / 2 - 1); i++) {
            sum += (int) Math.round(Math.pow(count - 1, i));
        }
        return length % 2 == 1 ? 1 + count * sum : 2 * sum;
    }

    public int ruledOut(int knots, int count, int length) {
        need(knots >= 3 && knots <= 99);
        needTabled(count, length);
        return why(knots, count, length);
    }

    public int table(int count, int length, boolean isNext) {
        needTabled(count, length);
        int next = 3;
        while (why(next, count, length) != 0) {
            next++;
        }
        return isNext ? next : smallest[count][length];
    }

    public int keep() {
        needState(n > 0 && kept.size() < 5);
        kept.add(copy(near));
        return kept.size() - 1;
    }

    public int back(int number) {
        needThere(number >= 0 && number < kept.size());
        near = copy(kept.get(number));
        n = near.length;
        changed(true);
        return edges(near).size();
    }

    public boolean isAlike(int number) {
        needThere(number >= 0 && number < kept.size());
        return numberings(near, kept.get(number), 1) > 0;
    }

    public int wouldEdge(int one, int other) {
        needThere(isKnot(one) && isKnot(other));
        need(one != other);
        boolean[][] then = copy(near);
        then[one][other] = then[other][one] = true;
        return least(then);
    }

    public int bestMarks() {
        needState(n > 0 && n <= 8);
        int best = 0;
        int most = NONE;
        for (int marks = 0; marks < 1 << Math.min(6, edges(near).size()); marks++) {
            int l = least(doubleOf(near, marks));
            l = l == NONE ? 1000 : l;
            if (l > most) {
                most = l;
                best = marks;
            }
        }
        return best;
    }

    public String row(int knot) {
        needThere(isKnot(knot));
        String text = "";
        for (int b = 0; b < n; b++) {
            text += b == knot ? "o" : near[knot][b] ? "#" : ".";
        }
        return text;
    }

    public boolean isSound() {
        if (aimed) {
            for (int a = 0; a < n; a++) {
                if (degree(near, a) > k) {
                    return false;
                }
            }
            if (least(near) != NONE && least(near) < g) {
                return false;
            }
        }
        int c = even(near);
        int l = least(near);
        if (c >= 2 && c <= 5 && l >= 3 && l <= 8 && why(n, c, l) != 0) {
            return false;
        }
        for (int count = 2; count <= 5; count++) {
            for (int length = 3; length <= 8; length++) {
                int s = smallest[count][length];
                if (s != NONE && (why(s, count, length) != 0 || s < table(count, length, true))) {
                    return false;
                }
            }
        }
        return true;
    }

    public int knock() {
        return ++refused;
    }

    public long digest() {
        List<Long> all = new ArrayList<>();
        for (int w = 0; w <= 10; w++) {
            all.add((long) now(w));
        }
        for (int w = 0; w <= 7; w++) {
            all.add((long) search(w));
        }
        for (int a = 0; a < n; a++) {
            for (int w = 0; w <= 5; w++) {
                all.add((long) ofKnot(a, w));
            }
        }
        for (int e = 0; e < edges(near).size(); e++) {
            for (int w = 0; w <= 3; w++) {
                all.add((long) ofEdge(e, w));
            }
        }
        for (int l = 3; l <= 7; l++) {
            all.add((long) rings(l));
        }
        for (int c = 2; c <= 5; c++) {
            for (int l = 3; l <= 8; l++) {
                all.add((long) table(c, l, false));
                all.add((long) table(c, l, true));
            }
        }
        for (int i = 0; i < kept.size(); i++) {
            all.add(isAlike(i) ? 1L : 0L);
        }
        all.add(isSound() ? 1L : 0L);
        long d = 9241;
        for (long v : all) {
            d = d * 31 + v;
        }
        return d;
    }
}
