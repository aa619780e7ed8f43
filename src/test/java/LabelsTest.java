/** marked() for every number of labels, against all chains, one after the other. */
public final class LabelsTest {
    private LabelsTest() {
    }

    public static void main(String[] args) {
        for (int n = 1; n <= 8; n++) {
            all(n);
        }
        Check.end();
    }

    private static UncrossedParts made(int n) {
        UncrossedParts x = new UncrossedParts();
        x.points(n);
        return x;
    }

    private static void all(int n) {
        int[] counts = AllParts.of(n).labelCounts();
        UncrossedParts x = made(n);
        long sum = 0;
        for (int v = 0; v < counts.length; v++) {
            if (v % 500 == 499) {
                x = made(n);
            }
            int got = x.marked(v);
            int due = isOutside(v) ? UncrossedParts.BAD : counts[v];
            sum += counts[v];
            if (got != due) {
                Check.due(n + " points: marked(" + v + ")", got, due);
            }
        }
        x = made(n);
        x.takes(1, 0);
        Check.due(n + " points: all chains", x.chains(0, 1), sum);
        Check.due(n + " points: marked(-1)", x.marked(-1), UncrossedParts.BAD);
        Check.due(n + " points: marked(lowest)", x.marked(Integer.MIN_VALUE), UncrossedParts.BAD);
        Check.due(n + " points: marked(greatest)", x.marked(Integer.MAX_VALUE), UncrossedParts.BAD);
        Check.due(n + " points: one label too many", x.marked(counts.length), UncrossedParts.BAD);
        Check.due(n + " points: told(0)", x.told(0), 4);
    }

    private static boolean isOutside(int v) {
        for (int rest = v; rest > 0; rest /= 10) {
            if (rest % 10 > 7) {
                return true;
            }
        }
        return false;
    }
}
