import java.util.ArrayList;
import java.util.Arrays;
import java.util.HashMap;
import java.util.List;
import java.util.Map;

/** All partitions of n points, and what the document says of them, taken from its definitions by looking at all. */
final class AllParts {
    private static final AllParts[] MADE = new AllParts[9];

    final int n;
    /** The rows of all partitions, crossing or not. */
    final List<int[]> every = new ArrayList<>();
    /** The rows of the noncrossing ones, in their order. */
    final List<int[]> rows = new ArrayList<>();
    final int[] rank;
    final boolean[][] under;
    private final Map<String, Integer> places = new HashMap<>();
    private final Map<Integer, long[]> chainsFrom = new HashMap<>();
    private final Map<Integer, long[]> moebiusFrom = new HashMap<>();
    private int[] labelCounts = null;

    static AllParts of(int n) {
        if (MADE[n] == null) {
            MADE[n] = new AllParts(n);
        }
        return MADE[n];
    }

    private AllParts(int n) {
        this.n = n;
        grow(new int[n], 0);
        for (int[] row : every) {
            if (!crosses(row)) {
                rows.add(row);
            }
        }
        rows.sort(Arrays::compare);
        rank = new int[rows.size()];
        for (int i = 0; i < rows.size(); i++) {
            places.put(Arrays.toString(rows.get(i)), i);
            rank[i] = n - blocks(rows.get(i));
        }
        under = new boolean[rows.size()][rows.size()];
        for (int i = 0; i < rows.size(); i++) {
            for (int j = 0; j < rows.size(); j++) {
                under[i][j] = isUnder(rows.get(i), rows.get(j));
            }
        }
    }

    private void grow(int[] row, int x) {
        if (x == n) {
            every.add(row.clone());
            return;
        }
        for (int low = 0; low <= x; low++) {
            if (low == x || row[low] == low) {
                row[x] = low;
                grow(row, x + 1);
            }
        }
    }

    private static boolean crosses(int[] row) {
        int n = row.length;
        for (int a = 0; a < n; a++) {
            for (int b = a + 1; b < n; b++) {
                for (int c = b + 1; c < n; c++) {
                    for (int d = c + 1; d < n; d++) {
                        if (row[a] == row[c] && row[b] == row[d] && row[a] != row[b]) {
                            return true;
                        }
                    }
                }
            }
        }
        return false;
    }

    static int blocks(int[] row) {
        int blocks = 0;
        for (int x = 0; x < row.length; x++) {
            blocks += row[x] == x ? 1 : 0;
        }
        return blocks;
    }

    static int size(int[] row, int lowest) {
        int size = 0;
        for (int low : row) {
            size += low == lowest ? 1 : 0;
        }
        return size;
    }

    private static boolean isUnder(int[] a, int[] b) {
        for (int x = 0; x < a.length; x++) {
            for (int y = 0; y < a.length; y++) {
                if (a[x] == a[y] && b[x] != b[y]) {
                    return false;
                }
            }
        }
        return true;
    }

    int size() {
        return rows.size();
    }

    int finest() {
        return size() - 1;
    }

    /** The place of the partition whose points x and y are together where the numbers are the same. */
    private int placeOf(int[] names) {
        int[] row = new int[n];
        for (int x = n - 1; x >= 0; x--) {
            for (int y = 0; y <= x; y++) {
                if (names[x] == names[y]) {
                    row[x] = y;
                    break;
                }
            }
        }
        Integer place = places.get(Arrays.toString(row));
        if (place == null) {
            throw new IllegalStateException("not a noncrossing partition: " + Arrays.toString(row));
        }
        return place;
    }

    int pair(int x, int y) {
        int[] names = new int[n];
        for (int z = 0; z < n; z++) {
            names[z] = z;
        }
        names[x] = names[y];
        return placeOf(names);
    }

    int meet(int a, int b) {
        int best = -1;
        for (int c = 0; c < size(); c++) {
            if (under[c][a] && under[c][b] && (best < 0 || rank[c] > rank[best])) {
                best = c;
            }
        }
        return best;
    }

    int join(int a, int b) {
        int best = -1;
        for (int c = 0; c < size(); c++) {
            if (under[a][c] && under[b][c] && (best < 0 || rank[c] < rank[best])) {
                best = c;
            }
        }
        return best;
    }

    private int next(int[] row, int x) {
        for (int y = x + 1; y < n; y++) {
            if (row[y] == row[x]) {
                return y;
            }
        }
        return row[x];
    }

    int complement(int a) {
        int[] row = rows.get(a);
        int[] k = new int[n];
        for (int x = 0; x < n; x++) {
            for (int y = 0; y < n; y++) {
                if (next(row, y) == (x == n - 1 ? 0 : x + 1)) {
                    k[x] = y;
                }
            }
        }
        int[] names = new int[n];
        Arrays.fill(names, -1);
        for (int x = 0; x < n; x++) {
            for (int y = x; names[y] < 0; y = k[y]) {
                names[y] = x;
            }
        }
        return placeOf(names);
    }

    int turned(int a) {
        int[] row = rows.get(a);
        int[] names = new int[n];
        for (int x = 0; x < n; x++) {
            names[x == n - 1 ? 0 : x + 1] = row[x];
        }
        return placeOf(names);
    }

    int evens() {
        int evens = 0;
        for (int a = 0; a < size(); a++) {
            int turned = a;
            for (int i = 0; i < n / 2; i++) {
                turned = turned(turned);
            }
            evens += turned == a ? 1 : 0;
        }
        return evens;
    }

    boolean covers(int upper, int lower) {
        return under[lower][upper] && rank[upper] == rank[lower] + 1;
    }

    int label(int lower, int upper) {
        int[] a = rows.get(lower);
        int[] b = rows.get(upper);
        for (int p = 0; p < n; p++) {
            for (int q = p + 1; q < n; q++) {
                if (a[p] == p && a[q] == q && b[p] == b[q]) {
                    int label = -1;
                    for (int x = 0; x < n; x++) {
                        label = a[x] == p && x < q ? x : label;
                    }
                    return label;
                }
            }
        }
        throw new IllegalStateException("no step");
    }

    int coverCount(int a) {
        int covers = 0;
        for (int b = 0; b < size(); b++) {
            covers += covers(b, a) ? 1 : 0;
        }
        return covers;
    }

    int coveredCount(int a) {
        int covered = 0;
        for (int b = 0; b < size(); b++) {
            covered += covers(a, b) ? 1 : 0;
        }
        return covered;
    }

    int cover(int a, int i) {
        int seen = 0;
        for (int b = 0; b < size(); b++) {
            if (covers(b, a)) {
                if (seen == i) {
                    return b;
                }
                seen++;
            }
        }
        return -1;
    }

    long chains(int a, int b) {
        return chainsFrom.computeIfAbsent(a, this::countChains)[b];
    }

    private long[] countChains(int a) {
        long[] chains = new long[size()];
        chains[a] = 1;
        for (int r = rank[a]; r < n; r++) {
            for (int c = 0; c < size(); c++) {
                for (int d = 0; rank[c] == r && chains[c] > 0 && d < size(); d++) {
                    chains[d] += covers(d, c) ? chains[c] : 0;
                }
            }
        }
        return chains;
    }

    long moebius(int a, int b) {
        return moebiusFrom.computeIfAbsent(a, this::addMoebius)[b];
    }

    private long[] addMoebius(int a) {
        long[] values = new long[size()];
        for (int r = rank[a]; r < n; r++) {
            for (int b = 0; b < size(); b++) {
                if (rank[b] == r && under[a][b]) {
                    long sum = 0;
                    for (int c = 0; c < size(); c++) {
                        sum += c != b && under[a][c] && under[c][b] ? values[c] : 0;
                    }
                    values[b] = a == b ? 1 : -sum;
                }
            }
        }
        return values;
    }

    int between(int a, int b) {
        int between = 0;
        for (int c = 0; c < size(); c++) {
            between += under[a][c] && under[c][b] ? 1 : 0;
        }
        return between;
    }

    /** By the labels as digits: the chains from the finest partition to the coarsest one. */
    int[] labelCounts() {
        if (labelCounts == null) {
            int[][] upper = new int[size()][];
            for (int a = 0; a < size(); a++) {
                upper[a] = new int[coverCount(a)];
                for (int b = 0, i = 0; b < size(); b++) {
                    if (covers(b, a)) {
                        upper[a][i++] = b;
                    }
                }
            }
            int limit = 1;
            for (int i = 1; i < n; i++) {
                limit *= 10;
            }
            labelCounts = new int[limit];
            climb(upper, finest(), 0);
        }
        return labelCounts;
    }

    private void climb(int[][] upper, int a, int labels) {
        if (rank[a] == n - 1) {
            labelCounts[labels]++;
            return;
        }
        for (int b : upper[a]) {
            climb(upper, b, 10 * labels + label(a, b));
        }
    }

    int ranked(int k) {
        int ranked = 0;
        for (int r : rank) {
            ranked += r == k ? 1 : 0;
        }
        return ranked;
    }

    /** The sum of the products of the cumulants over partitions: noncrossing ones for kind 1, else all. */
    private long sum(int kind, long[] cumulants, boolean withCoarsest) {
        long sum = 0;
        for (int[] row : kind == 1 ? rows : every) {
            if (blocks(row) == 1 && !withCoarsest) {
                continue;
            }
            long product = 1;
            for (int x = 0; x < n; x++) {
                product *= row[x] == x ? cumulants[size(row, x)] : 1;
            }
            sum += product;
        }
        return sum;
    }

    /** The numbers of kind k, from 1 to 8, for those of kind j. */
    static long[] convert(long[] numbers, int j, int k) {
        long[] moments = new long[9];
        for (int n = 1; n <= 8; n++) {
            moments[n] = j == 0 ? numbers[n] : of(n).sum(j, numbers, true);
        }
        long[] wanted = new long[9];
        for (int n = 1; n <= 8; n++) {
            wanted[n] = k == 0 ? moments[n] : moments[n] - of(n).sum(k, wanted, false);
        }
        return wanted;
    }
}
