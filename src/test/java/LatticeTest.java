/** All partitions, and all pairs of them or many, against the definitions: what the class answers by formulas. */
public final class LatticeTest {
    private LatticeTest() {
    }

    public static void main(String[] args) {
        for (int n = 1; n <= 8; n++) {
            all(n);
        }
        Check.end();
    }

    private static UncrossedParts made(int n) {
        UncrossedParts x = new UncrossedParts();
        x.points(n);
        return x;
    }

    private static void all(int n) {
        AllParts parts = AllParts.of(n);
        UncrossedParts x = made(n);
        Check.due(n + " points: count(1)", x.count(1), parts.size());
        for (int k = 0; k < 8; k++) {
            Check.due(n + " points: count(" + (2 + k) + ")", x.count(2 + k), parts.ranked(k));
        }
        Check.due(n + " points: evens()", x.evens(), n % 2 == 0 ? parts.evens() : UncrossedParts.NO);
        for (int a = 0; a < parts.size(); a++) {
            one(parts, a);
            // Eight points have some two million pairs: a part of them, another one for each a, must do.
            for (int b = n == 8 ? a % 23 : 0; b < parts.size(); b += n == 8 ? 23 : 1) {
                pair(parts, a, b);
            }
        }
    }

    private static void one(AllParts parts, int a) {
        int n = parts.n;
        UncrossedParts x = made(n);
        String at = n + " points, partition " + a + ": ";
        int[] row = parts.rows.get(a);
        Check.due(at + "takes", x.takes(0, a), parts.rank[a]);
        Check.due(at + "of 0", x.of(0, 0), a);
        Check.due(at + "of 1", x.of(0, 1), parts.rank[a]);
        Check.due(at + "of 4", x.of(0, 4), parts.coverCount(a));
        Check.due(at + "of 5", x.of(0, 5), parts.coveredCount(a));
        int singles = 0;
        int largest = 0;
        for (int p = 0; p < n; p++) {
            Check.due(at + "row " + p, x.row(0, p), row[p]);
            singles += AllParts.size(row, p) == 1 ? 1 : 0;
            largest = Math.max(largest, AllParts.size(row, p));
        }
        Check.due(at + "of 2", x.of(0, 2), singles);
        Check.due(at + "of 3", x.of(0, 3), largest);
        int covers = parts.coverCount(a);
        for (int i = 0, b = 0; i < covers; i++) {
            for (; !parts.covers(b, a); b++) {
            }
            Check.due(at + "covers " + i, x.covers(0, i), b);
            x.takes(1, b);
            Check.due(at + "mark to " + b, x.mark(0, 1), parts.label(a, b));
            b++;
        }
        Check.due(at + "covers " + covers, x.covers(0, covers), UncrossedParts.NONE);
        Check.due(at + "covers of the greatest index", x.covers(0, Integer.MAX_VALUE), UncrossedParts.NONE);
        int complement = parts.complement(a);
        Check.due(at + "complements", x.complements(2, 0), parts.rank[complement]);
        Check.due(at + "its number", x.of(2, 0), complement);
        Check.due(at + "turns", x.turns(3, 0), parts.turned(a));
        Check.due(at + "its number", x.of(3, 0), parts.turned(a));
        Check.due(at + "untouched", x.of(0, 0), a);
        for (int p = 0; p < n; p++) {
            for (int q = 0; q < n; q++) {
                x.takes(4, a);
                int join = parts.join(a, parts.pair(p, q));
                Check.due(at + "puts " + p + " " + q, x.puts(4, p, q), parts.rank[join]);
                Check.due(at + "its number", x.of(4, 0), join);
            }
        }
    }

    private static void pair(AllParts parts, int a, int b) {
        UncrossedParts x = made(parts.n);
        String at = parts.n + " points, partitions " + a + " and " + b + ": ";
        x.takes(0, a);
        x.takes(1, b);
        boolean under = parts.under[a][b];
        Check.due(at + "below", x.below(0, 1), under ? 1 : 0);
        Check.due(at + "mark", x.mark(0, 1), parts.covers(b, a) ? parts.label(a, b) : UncrossedParts.NO);
        if (under) {
            Check.due(at + "between", x.between(0, 1), parts.between(a, b));
            Check.due(at + "chains", x.chains(0, 1), parts.chains(a, b));
            Check.due(at + "signed", x.signed(0, 1), parts.moebius(a, b));
        } else {
            Check.due(at + "between", x.between(0, 1), UncrossedParts.NO);
            Check.due(at + "chains", x.chains(0, 1), UncrossedParts.NO);
            Check.due(at + "signed", x.signed(0, 1), UncrossedParts.NO);
        }
        int meet = parts.meet(a, b);
        int join = parts.join(a, b);
        Check.due(at + "meets", x.meets(2, 0, 1), parts.rank[meet]);
        Check.due(at + "its number", x.of(2, 0), meet);
        Check.due(at + "joins", x.joins(3, 0, 1), parts.rank[join]);
        Check.due(at + "its number", x.of(3, 0), join);
        Check.due(at + "joins into its own slot", x.joins(0, 0, 1), parts.rank[join]);
        Check.due(at + "its number", x.of(0, 0), join);
    }
}
