import java.util.ArrayList;
import java.util.Arrays;
import java.util.HashMap;
import java.util.List;
import java.util.Map;

/**
 * The document once more, as naively as can be: whatever can be tried out is tried out, and nothing is
 * shared with the program that it judges.
 */
final class Oracle {
    static final int NONE = -1, BAD = -2, STATE = -3, MUCH = -5;
    private static final int[] SIZE = {2, 3, 5, 4};
    private static final int[][] TIMES_OF_FOUR = {{0, 0, 0, 0}, {0, 1, 2, 3}, {0, 2, 3, 1}, {0, 3, 1, 2}};

    private static final int MOST_COLUMNS = 78125;

    /** The sums made so far, and by each sum the round in which it was last made. */
    private static final int[] SUMS = new int[MOST_COLUMNS];
    private static final int[] MADE_IN = new int[MOST_COLUMNS];
    private static int round;
    private static final Map<String, List<int[]>> FOUND = new HashMap<>();

    /** ranks[set]; as many as there are sets. */
    private int[][] views = {{0}, {0}, {0}, {0}};
    private int[][] image;
    private int imageZ;
    private int z = 1;
    private final Object[] holds = new Object[4];
    private final byte[][] byteSheets = new byte[4][];
    private final int[][] intSheets = new int[4][];
    private int[] cause = {0, -1, -1, -1};

    // ---- the face

    int reckon(int field, int what, int a, int b) {
        if (out(field, 0, 3) || out(what, 0, 3) || out(a, 0, SIZE[field] - 1) || out(b, 0, SIZE[field] - 1)) {
            return BAD;
        }
        if (what == 3 && b == 0) {
            return -15;
        }
        switch (what) {
            case 0:
                return add(field, a, b);
            case 1:
                for (int c = 0; c < SIZE[field]; c++) {
                    if (add(field, c, b) == a) {
                        return c;
                    }
                }
                throw new IllegalStateException();
            case 2:
                return times(field, a, b);
            default:
                for (int c = 0; c < SIZE[field]; c++) {
                    if (times(field, c, b) == a) {
                        return c;
                    }
                }
                throw new IllegalStateException();
        }
    }

    int uniform(int v, int n, int r) {
        if (out(v, 0, 3) || out(n, 0, 7) || out(r, 0, n)) {
            return BAD;
        }
        int[] ranks = new int[1 << n];
        for (int set = 0; set < ranks.length; set++) {
            ranks[set] = Math.min(r, size(set));
        }
        views[v] = ranks;
        return 1;
    }

    int columns(int v, int field, int s, int n) {
        if (out(v, 0, 3) || out(field, 0, 3) || out(s, 0, 3) || out(n, 0, 7)) {
            return BAD;
        }
        if (missing(s)) {
            return -11;
        }
        if (length(s) < n) {
            return -12;
        }
        int[] codes = new int[n];
        for (int e = 0; e < n; e++) {
            codes[e] = get(s, e);
            if (out(codes[e], 0, (int) Math.pow(SIZE[field], 7) - 1)) {
                return STATE;
            }
        }
        views[v] = ranksByColumns(field, codes);
        return top(views[v]);
    }

    int tell(int v, int s, int n) {
        if (out(v, 0, 3) || out(s, 0, 3) || out(n, 0, 7)) {
            return BAD;
        }
        if (missing(s)) {
            return -11;
        }
        List<Integer> told = new ArrayList<>();
        for (int i = 0; i < length(s); i++) {
            told.add(get(s, i));
        }
        int[] found = causeOf(told, n);
        cause = found;
        if (found[0] != 0) {
            return STATE;
        }
        int[] ranks = new int[1 << n];
        for (int set = 0; set < ranks.length; set++) {
            for (int base : told) {
                ranks[set] = Math.max(ranks[set], size(base & set));
            }
        }
        views[v] = ranks;
        return top(ranks);
    }

    int cause(int what) {
        return out(what, 0, 3) ? BAD : cause[what];
    }

    int rank(int v, int set) {
        return noSet(v, set) ? BAD : views[v][set];
    }

    int span(int v, int set) {
        if (noSet(v, set)) {
            return BAD;
        }
        int spanned = 0;
        for (int e = 0; e < elements(views[v]); e++) {
            if (has(set, e) || views[v][set | 1 << e] == views[v][set]) {
                spanned |= 1 << e;
            }
        }
        return spanned;
    }

    int sorts(int v, int set) {
        if (noSet(v, set)) {
            return BAD;
        }
        return (free(views[v], set) ? 1 : 0) + (base(views[v], set) ? 2 : 0) + (circuit(views[v], set) ? 4 : 0)
                + (flat(views[v], set) ? 8 : 0) + (hyperplane(views[v], set) ? 16 : 0);
    }

    int many(int v, int what) {
        if (out(v, 0, 3) || out(what, 0, 5)) {
            return BAD;
        }
        return what == 0 ? elements(views[v]) : all(views[v], what).size();
    }

    int at(int v, int what, int k) {
        if (out(v, 0, 3) || out(what, 1, 5)) {
            return BAD;
        }
        List<Integer> sets = all(views[v], what);
        return out(k, 0, sets.size() - 1) ? NONE : sets.get(k);
    }

    int best(int v, int s, int what) {
        if (out(v, 0, 3) || out(s, 0, 3) || out(what, 0, 1)) {
            return BAD;
        }
        if (missing(s)) {
            return -11;
        }
        int best = -1;
        int most = 0;
        for (int set : all(views[v], 2)) {
            int weight = 0;
            for (int e = 0; e < 7; e++) {
                weight += has(set, e) && e < length(s) ? get(s, e) : 0;
            }
            if (best == -1 || weight > most) {
                best = set;
                most = weight;
            }
        }
        return what == 0 ? best : most;
    }

    int dual(int v, int w) {
        if (out(v, 0, 3) || out(w, 0, 3)) {
            return BAD;
        }
        views[w] = dualOf(views[v]);
        return top(views[w]);
    }

    int minor(int v, int w, int x, int y) {
        if (out(v, 0, 3) || out(w, 0, 3) || noSet(v, x) || noSet(v, y) || (x & y) != 0) {
            return BAD;
        }
        views[w] = minorOf(views[v], x, y);
        return elements(views[w]);
    }

    int union(int v, int w, int u) {
        if (out(v, 0, 3) || out(w, 0, 3) || out(u, 0, 3)) {
            return BAD;
        }
        if (views[v].length != views[w].length) {
            return STATE;
        }
        // a set is FREE in the union if it parts into one FREE here and one FREE there
        int[] ranks = new int[views[v].length];
        for (int set = 0; set < ranks.length; set++) {
            for (int one = 0; one <= set; one++) {
                if ((one & ~set) == 0) {
                    ranks[set] = Math.max(ranks[set], views[v][one] + views[w][set & ~one]);
                }
            }
        }
        views[u] = ranks;
        return top(ranks);
    }

    int renumber(int v, int w, int s) {
        if (out(v, 0, 3) || out(w, 0, 3) || out(s, 0, 3)) {
            return BAD;
        }
        if (missing(s)) {
            return -11;
        }
        int n = elements(views[v]);
        if (length(s) < n) {
            return -12;
        }
        int[] to = new int[n];
        for (int e = 0; e < n; e++) {
            to[e] = get(s, e);
        }
        int[] sorted = to.clone();
        Arrays.sort(sorted);
        for (int e = 0; e < n; e++) {
            if (sorted[e] != e) {
                return STATE;
            }
        }
        views[w] = renumbered(views[v], to);
        return 1;
    }

    int same(int v, int w) {
        if (out(v, 0, 3) || out(w, 0, 3)) {
            return BAD;
        }
        return Arrays.equals(views[v], views[w]) ? 1 : 0;
    }

    int alike(int v, int w) {
        if (out(v, 0, 3) || out(w, 0, 3)) {
            return BAD;
        }
        if (elements(views[v]) == 7 && elements(views[w]) == 7) {
            return MUCH;
        }
        if (elements(views[v]) != elements(views[w])) {
            return 0;
        }
        return someOrderFits(views[v], views[w], new int[elements(views[v])], 0) ? 1 : 0;
    }

    int writings(int v, int field) {
        return out(v, 0, 3) || out(field, 0, 3) ? BAD : allWritings(views[v], field).size();
    }

    int writes(int v, int field, int s) {
        if (out(v, 0, 3) || out(field, 0, 3) || out(s, 0, 3)) {
            return BAD;
        }
        List<int[]> found = allWritings(views[v], field);
        if (found.isEmpty()) {
            return NONE;
        }
        become(s, found.get(0));
        return found.get(0).length;
    }

    int clash(int v) {
        if (out(v, 0, 3)) {
            return BAD;
        }
        int n = elements(views[v]);
        int first = all(views[v], 2).get(0);
        int[] codes = new int[n];
        for (int e = 0; e < n; e++) {
            int row = 0;
            for (int b = 0; b < n; b++) {
                if (has(first, b)) {
                    boolean one = has(first, e) ? e == b : base(views[v], first ^ 1 << b ^ 1 << e);
                    codes[e] += one ? 1 << row : 0;
                    row++;
                }
            }
        }
        int[] ranks = ranksByColumns(0, codes);
        for (int set = 0; set < ranks.length; set++) {
            if (ranks[set] != views[v][set]) {
                return set;
            }
        }
        return NONE;
    }

    int excluded(int v, int field, int what) {
        if (out(v, 0, 3) || out(field, 0, 1) || out(what, 0, 2)) {
            return BAD;
        }
        for (int x = 0; x < views[v].length; x++) {
            for (int y = 0; y < views[v].length; y++) {
                int sort = (x & y) != 0 ? -1 : excludedSort(minorOf(views[v], x, y), field);
                if (sort >= 0) {
                    return new int[] {sort, x, y}[what];
                }
            }
        }
        return NONE;
    }

    int seed(int v) {
        int was = z;
        z = v;
        return was;
    }

    int deal(int v, int field, int n, int r) {
        if (out(v, 0, 3) || out(field, 0, 3) || out(n, 0, 7) || out(r, 0, 4)) {
            return BAD;
        }
        views[v] = drawn(field, n, r);
        return top(views[v]);
    }

    int chance(int field, int n, int r, int m, int other) {
        if (out(field, 0, 3) || out(n, 0, 7) || out(r, 0, 4) || out(m, 1, 5) || out(other, 0, 3)) {
            return BAD;
        }
        int before = z;
        int can = 0;
        for (int i = 0; i < m; i++) {
            can += allWritings(drawn(field, n, r), other).isEmpty() ? 0 : 1;
        }
        z = before;
        return can;
    }

    int hold(int h, int what, int k) {
        if (out(h, 0, 3) || out(what, 0, 2) || what != 2 && out(k, 0, 3)) {
            return BAD;
        }
        holds[h] = what == 0 ? (Object) k : what == 1 ? views[k].clone() : null;
        return 1;
    }

    int held(int h, int what) {
        if (out(h, 0, 3) || out(what, 0, 4)) {
            return BAD;
        }
        if (holds[h] == null) {
            return -11;
        }
        if (holds[h] instanceof Integer field) {
            return what == 0 ? SIZE[field] : what == 1 ? (field == 3 ? 0 : 1) : -13;
        }
        int[] ranks = (int[]) holds[h];
        return what == 2 ? elements(ranks) : what == 3 ? top(ranks) : what == 4 ? all(ranks, 2).size() : -13;
    }

    int take(int v, int h) {
        if (out(v, 0, 3) || out(h, 0, 3)) {
            return BAD;
        }
        if (holds[h] == null) {
            return -11;
        }
        if (holds[h] instanceof Integer) {
            return -13;
        }
        views[v] = ((int[]) holds[h]).clone();
        return elements(views[v]);
    }

    int sheet(int s, int sort, int n) {
        if (out(s, 0, 3) || out(sort, -1, 1) || sort != -1 && n > 64) {
            return BAD;
        }
        if (sort != -1 && n < 0) {
            return -14;
        }
        byteSheets[s] = sort == 0 ? new byte[n] : null;
        intSheets[s] = sort == 1 ? new int[n] : null;
        return 1;
    }

    int write(int s, int i, int v) {
        if (out(s, 0, 3)) {
            return BAD;
        }
        if (missing(s)) {
            return -11;
        }
        if (out(i, 0, length(s) - 1)) {
            return -12;
        }
        if (byteSheets[s] != null) {
            byteSheets[s][i] = (byte) v;
        } else {
            intSheets[s][i] = v;
        }
        return 1;
    }

    int item(int s, int i) {
        if (out(s, 0, 3)) {
            return BAD;
        }
        if (missing(s)) {
            return -11;
        }
        return out(i, 0, length(s) - 1) ? -12 : get(s, i);
    }

    int copy(int s, int i, int t, int j, int n) {
        if (out(s, 0, 3) || out(t, 0, 3)) {
            return BAD;
        }
        if (missing(s) || missing(t)) {
            return -11;
        }
        if ((byteSheets[s] == null) != (byteSheets[t] == null)) {
            return -13;
        }
        if (n < 0 || i < 0 || j < 0 || (long) i + n > length(s) || (long) j + n > length(t)) {
            return -12;
        }
        int[] before = new int[n];
        for (int k = 0; k < n; k++) {
            before[k] = get(s, i + k);
        }
        for (int k = 0; k < n; k++) {
            write(t, j + k, before[k]);
        }
        return n;
    }

    int list(int v, int s) {
        if (out(v, 0, 3) || out(s, 0, 3)) {
            return BAD;
        }
        List<Integer> bases = all(views[v], 2);
        become(s, bases.stream().mapToInt(Integer::intValue).toArray());
        return bases.size();
    }

    int image() {
        image = views.clone();
        for (int v = 0; v < 4; v++) {
            image[v] = views[v].clone();
        }
        imageZ = z;
        return count(0);
    }

    int back() {
        if (image == null) {
            return STATE;
        }
        for (int v = 0; v < 4; v++) {
            views[v] = image[v].clone();
        }
        z = imageZ;
        return count(0);
    }

    int count(int what) {
        int sum = 0;
        for (int k = 0; k < 4; k++) {
            sum += what == 0 ? elements(views[k]) : what == 2 ? (holds[k] == null ? 0 : 1) : missing(k) ? 0 : 1;
        }
        return out(what, 0, 3) ? BAD : what == 1 ? z : sum;
    }

    // ---- fields and columns

    private static int add(int field, int a, int b) {
        return field == 3 ? a ^ b : (a + b) % SIZE[field];
    }

    private static int times(int field, int a, int b) {
        return field == 3 ? TIMES_OF_FOUR[a][b] : a * b % SIZE[field];
    }

    /** RANK is how often SIZE goes into the number of sums that can be made: all of them are made. */
    static int[] ranksByColumns(int field, int[] codes) {
        int[] ranks = new int[1 << codes.length];
        for (int set = 0; set < ranks.length; set++) {
            ranks[set] = rankByColumns(field, codes, set);
        }
        return ranks;
    }

    private static int rankByColumns(int field, int[] codes, int set) {
        round++;
        SUMS[0] = 0;
        MADE_IN[0] = round;
        int many = 1;
        int rank = 0;
        for (int e = 0; e < codes.length; e++) {
            if (has(set, e) && MADE_IN[codes[e]] != round) {
                int before = many;
                for (int factor = 1; factor < SIZE[field]; factor++) {
                    for (int i = 0; i < before; i++) {
                        SUMS[many] = addCodes(field, SUMS[i], codes[e], factor);
                        MADE_IN[SUMS[many]] = round;
                        many++;
                    }
                }
                rank++;
            }
        }
        return rank;
    }

    private static int addCodes(int field, int a, int b, int factor) {
        int sum = 0;
        for (int row = 0, unit = 1; row < 7 && unit <= Math.max(a, b); row++, unit *= SIZE[field]) {
            int one = a / unit % SIZE[field];
            int other = b / unit % SIZE[field];
            sum += unit * add(field, one, times(field, factor, other));
        }
        return sum;
    }

    private int[] drawn(int field, int n, int r) {
        int[] codes = new int[n];
        for (int e = 0; e < n; e++) {
            int unit = 1;
            for (int row = 0; row < r; row++) {
                z = z * 1103515245 + 12345;
                codes[e] += unit * ((z >>> 16) % SIZE[field]);
                unit *= SIZE[field];
            }
        }
        return ranksByColumns(field, codes);
    }

    // ---- views

    private static int elements(int[] ranks) {
        return Integer.numberOfTrailingZeros(ranks.length);
    }

    private static int top(int[] ranks) {
        return ranks[ranks.length - 1];
    }

    private static boolean free(int[] ranks, int set) {
        return ranks[set] == size(set);
    }

    private static boolean base(int[] ranks, int set) {
        return free(ranks, set) && ranks[set] == top(ranks);
    }

    private static boolean circuit(int[] ranks, int set) {
        boolean allFree = true;
        for (int e = 0; e < elements(ranks); e++) {
            allFree &= !has(set, e) || free(ranks, set ^ 1 << e);
        }
        return !free(ranks, set) && allFree;
    }

    private static boolean flat(int[] ranks, int set) {
        boolean grows = true;
        for (int e = 0; e < elements(ranks); e++) {
            grows &= has(set, e) || ranks[set | 1 << e] > ranks[set];
        }
        return grows;
    }

    private static boolean hyperplane(int[] ranks, int set) {
        return flat(ranks, set) && ranks[set] + 1 == top(ranks);
    }

    private static List<Integer> all(int[] ranks, int what) {
        List<Integer> sets = new ArrayList<>();
        for (int set = 0; set < ranks.length; set++) {
            boolean is = what == 1 ? free(ranks, set) : what == 2 ? base(ranks, set)
                    : what == 3 ? circuit(ranks, set) : what == 4 ? flat(ranks, set) : hyperplane(ranks, set);
            if (is) {
                sets.add(set);
            }
        }
        return sets;
    }

    private static int[] dualOf(int[] ranks) {
        int[] dual = new int[ranks.length];
        for (int set = 0; set < ranks.length; set++) {
            dual[set] = size(set) + ranks[ranks.length - 1 - set] - top(ranks);
        }
        return dual;
    }

    private static int[] minorOf(int[] ranks, int x, int y) {
        List<Integer> left = new ArrayList<>();
        for (int e = 0; e < elements(ranks); e++) {
            if (!has(x | y, e)) {
                left.add(e);
            }
        }
        int[] minor = new int[1 << left.size()];
        for (int set = 0; set < minor.length; set++) {
            int old = x;
            for (int e = 0; e < left.size(); e++) {
                old |= has(set, e) ? 1 << left.get(e) : 0;
            }
            minor[set] = ranks[old] - ranks[x];
        }
        return minor;
    }

    private static int[] renumbered(int[] ranks, int[] to) {
        int[] anew = new int[ranks.length];
        for (int set = 0; set < ranks.length; set++) {
            int other = 0;
            for (int e = 0; e < to.length; e++) {
                other += has(set, e) ? 1 << to[e] : 0;
            }
            anew[other] = ranks[set];
        }
        return anew;
    }

    private static boolean someOrderFits(int[] one, int[] other, int[] to, int from) {
        if (from == to.length) {
            return Arrays.equals(renumbered(one, to), other);
        }
        for (int k = 0; k < to.length; k++) {
            boolean used = false;
            for (int e = 0; e < from; e++) {
                used |= to[e] == k;
            }
            to[from] = k;
            if (!used && someOrderFits(one, other, to, from + 1)) {
                return true;
            }
        }
        return false;
    }

    private static int excludedSort(int[] ranks, int field) {
        if (field == 0) {
            return Arrays.equals(ranks, uniformRanks(4, 2)) ? 0 : -1;
        }
        if (Arrays.equals(ranks, uniformRanks(5, 2))) {
            return 1;
        }
        if (Arrays.equals(ranks, uniformRanks(5, 3))) {
            return 2;
        }
        return sevenPoints(ranks) ? 3 : sevenPoints(dualOf(ranks)) ? 4 : -1;
    }

    private static int[] uniformRanks(int n, int r) {
        int[] ranks = new int[1 << n];
        for (int set = 0; set < ranks.length; set++) {
            ranks[set] = Math.min(size(set), r);
        }
        return ranks;
    }

    private static boolean sevenPoints(int[] ranks) {
        if (ranks.length != 128 || top(ranks) != 3) {
            return false;
        }
        for (int two = 0; two < 128; two++) {
            int circuits = 0;
            for (int three = 0; three < 128; three++) {
                circuits += size(three) == 3 && (two & ~three) == 0 && circuit(ranks, three) ? 1 : 0;
            }
            if (size(two) == 2 && (!free(ranks, two) || circuits != 1)) {
                return false;
            }
        }
        return true;
    }

    // ---- bases that are told

    private static int[] causeOf(List<Integer> told, int n) {
        if (told.isEmpty()) {
            return new int[] {1, -1, -1, -1};
        }
        for (int i = 0; i < told.size(); i++) {
            if (out(told.get(i), 0, (1 << n) - 1)) {
                return new int[] {2, i, -1, -1};
            }
            if (size(told.get(i)) != size(told.get(0))) {
                return new int[] {3, i, -1, -1};
            }
        }
        for (int i = 0; i < told.size(); i++) {
            for (int j = 0; j < told.size(); j++) {
                for (int e = 0; e < n; e++) {
                    int one = told.get(i);
                    int other = told.get(j);
                    boolean lacks = has(one, e) && !has(other, e);
                    for (int f = 0; f < n; f++) {
                        if (!has(one, f) && has(other, f) && told.contains(one - (1 << e) + (1 << f))) {
                            lacks = false;
                        }
                    }
                    if (lacks) {
                        return new int[] {4, i, j, e};
                    }
                }
            }
        }
        return new int[] {0, -1, -1, -1};
    }

    // ---- writings

    /** What was found once needn't be looked for again. */
    static List<int[]> allWritings(int[] ranks, int field) {
        return FOUND.computeIfAbsent(field + Arrays.toString(ranks), key -> findWritings(ranks, field));
    }

    /** All ways to fill the places that aren't fixed, in order, each looked at whole. */
    private static List<int[]> findWritings(int[] ranks, int field) {
        int n = elements(ranks);
        int first = all(ranks, 2).get(0);
        List<Integer> rows = new ArrayList<>();
        for (int e = 0; e < n; e++) {
            if (has(first, e)) {
                rows.add(e);
            }
        }
        List<int[]> places = new ArrayList<>();
        for (int e = 0; e < n; e++) {
            for (int row = 0; row < rows.size() && !has(first, e); row++) {
                if (base(ranks, first ^ 1 << rows.get(row) ^ 1 << e)) {
                    places.add(new int[] {e, row});
                }
            }
        }
        List<Integer> open = new ArrayList<>();
        for (int k = 0; k < places.size(); k++) {
            if (isJoinedBy(places.subList(0, k), places.get(k)[0], places.get(k)[1])) {
                open.add(k);
            }
        }
        List<int[]> found = new ArrayList<>();
        int ways = (int) Math.pow(SIZE[field] - 1, open.size());
        for (int way = 0; way < ways; way++) {
            int[] codes = new int[n];
            for (int row = 0; row < rows.size(); row++) {
                codes[rows.get(row)] = (int) Math.pow(SIZE[field], row);
            }
            int rest = ways;
            int left = way;
            for (int k = 0; k < places.size(); k++) {
                int number = 1;
                if (open.contains(k)) {
                    rest /= SIZE[field] - 1;
                    number = 1 + left / rest;
                    left %= rest;
                }
                codes[places.get(k)[0]] += number * (int) Math.pow(SIZE[field], places.get(k)[1]);
            }
            if (tells(field, codes, ranks)) {
                found.add(codes);
            }
        }
        return found;
    }

    private static boolean tells(int field, int[] codes, int[] ranks) {
        for (int set = 0; set < ranks.length; set++) {
            if (rankByColumns(field, codes, set) != ranks[set]) {
                return false;
            }
        }
        return true;
    }

    private static boolean isJoinedBy(List<int[]> places, int column, int row) {
        int columns = 1 << column;
        int rows = 0;
        for (int round = 0; round < 16; round++) {
            for (int[] place : places) {
                if (has(columns, place[0]) || has(rows, place[1])) {
                    columns |= 1 << place[0];
                    rows |= 1 << place[1];
                }
            }
        }
        return has(rows, row);
    }

    // ---- small things

    private static boolean out(int k, int low, int high) {
        return k < low || k > high;
    }

    private boolean noSet(int v, int set) {
        return out(v, 0, 3) || out(set, 0, views[v].length - 1);
    }

    private static boolean has(int set, int e) {
        return (set >> e & 1) == 1;
    }

    private static int size(int set) {
        return Integer.bitCount(set);
    }

    private boolean missing(int s) {
        return byteSheets[s] == null && intSheets[s] == null;
    }

    private int length(int s) {
        return byteSheets[s] != null ? byteSheets[s].length : intSheets[s].length;
    }

    private int get(int s, int i) {
        return byteSheets[s] != null ? byteSheets[s][i] : intSheets[s][i];
    }

    private void become(int s, int[] row) {
        byteSheets[s] = null;
        intSheets[s] = row.clone();
    }
}
