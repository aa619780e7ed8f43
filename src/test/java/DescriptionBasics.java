/** What the document says before the promises without naming a boundary case. */
final class DescriptionBasics {
    private DescriptionBasics() {
    }

    @Sentence(words = "The lattice of noncrossing partitions.")
    @Broken(in = "void join(", was = "uncomplement(made, shared)", is = "complement(made, shared)")
    @Broken(in = "void meet(", was = "a.areTogether(x, y) && b.areTogether(x, y)", is = "a.areTogether(x, y)")
    @Broken(in = "void meet(", was = "a.areTogether(x, y) && b.areTogether(x, y)", is = "b.areTogether(x, y)")
    @Broken(in = "boolean isUnder(", was = "return true", is = "return rank() <= upper.rank() && rank() != 1")
    static void lattice() {
        for (int a = 0; a < 14; a++) {
            for (int b = 0; b < 14; b++) {
                UncrossedParts x = new UncrossedParts();
                x.takes(0, a);
                x.takes(1, b);
                x.meets(2, 0, 1);
                x.joins(3, 0, 1);
                for (int c = 0; c < 14; c++) {
                    String at = "partitions " + a + ", " + b + " and " + c + ": ";
                    x.takes(4, c);
                    Check.due(at + "below both is below the meet", x.below(4, 2), x.below(4, 0) * x.below(4, 1));
                    Check.due(at + "above both is above the join", x.below(3, 4), x.below(0, 4) * x.below(1, 4));
                }
            }
        }
    }

    @Sentence(words = "The class holds several noncrossing partitions of points on a circle, computes meets, joins, rotations"
        + " and Kreweras complements, numbers all partitions, counts and lists covers, counts chains and chains with given"
        + " labels, computes Möbius values and sizes of intervals, converts between moments, free cumulants and classical"
        + " cumulants, counts partitions that are invariant under a half turn, executes orders from a text as one"
        + " transaction, and goes back to earlier states.")
    @Broken(in = "private int putMade(", was = "now.parts[s].copy(made)", is = "now.parts[0].copy(made)")
    @Broken(in = "int putMeet(", was = "lattice.meet(", is = "lattice.join(")
    @Broken(in = "int putJoin(", was = "lattice.join(", is = "lattice.meet(")
    @Broken(in = "int putTurned(", was = "lattice.turn(", is = "lattice.complement(")
    @Broken(in = "int putComplement(", was = "lattice.complement(", is = "lattice.turn(")
    @Broken(in = "int placeOf(", was = "place += ways", is = "place -= ways")
    @Broken(in = "public int covers(", was = "return board", is = "return i > 0 ? NONE : board")
    @Broken(in = "int coversOf(", was = "complement(first, part)", is = "first.copy(part)")
    @Broken(in = "public int chains(", was = "chainsOfProduct()", is = "sizeOfProduct()")
    @Broken(in = "public int marked(", was = "board.isParking(v) ? 1 : 0", is = "0")
    @Broken(in = "public int signed(", was = "moebiusOfProduct()", is = "sizeOfProduct()")
    @Broken(in = "public int between(", was = "sizeOfProduct()", is = "chainsOfProduct()")
    @Broken(in = "public long as(", was = "series.convert(board.now.numbers, j, k)",
        is = "series.convert(board.now.numbers, k, k)")
    @Broken(in = "public int evens()", was = "choose(n, n / 2)", is = "CATALAN[n]")
    @Broken(in = "public int does()", was = "past.keep();", is = "past.keep(); past.keep();")
    @Broken(in = "public int back()", was = "board.now.copy(past.prepared());", is = "")
    static void whatTheClassDoes() {
        UncrossedParts x = new UncrossedParts();
        x.puts(0, 0, 2);
        x.puts(1, 1, 2);
        Edges.rows("holds several partitions", x, 0, "0103");
        Edges.rows("holds several partitions", x, 1, "0113");
        Check.due("computes meets", x.meets(2, 0, 1), 0);
        Edges.rows("computes meets", x, 2, "0123");
        Check.due("computes joins", x.joins(3, 0, 1), 2);
        Edges.rows("computes joins", x, 3, "0003");
        Check.due("computes rotations", x.turns(4, 0), 11);
        Edges.rows("computes rotations", x, 4, "0121");
        Check.due("computes complements", x.complements(5, 0), 2);
        Edges.rows("computes complements", x, 5, "0022");
        int[] numbers = {6, 9, 13, 1, 11, 3};
        for (int s = 0; s < 6; s++) {
            Check.due("numbers all partitions: of(" + s + ", 0)", x.of(s, 0), numbers[s]);
        }
        Check.due("counts covers", x.of(0, 4), 2);
        Check.due("lists covers", x.covers(0, 0), 1);
        Check.due("lists covers", x.covers(0, 1), 5);
        Check.due("lists covers", x.covers(0, 2), -1);
        Check.due("counts chains", x.chains(2, 3), 3);
        Check.due("counts chains with given labels", x.marked(12), 1);
        Check.due("counts chains with given labels", x.marked(33), 0);
        Check.due("computes Moebius values", x.signed(2, 3), 2);
        Check.due("computes sizes of intervals", x.between(2, 3), 5);
        x.number(2, 5);
        Check.due("converts moments to free cumulants", x.as(0, 1, 4), -50);
        Check.due("converts moments to classical cumulants", x.as(0, 2, 4), -75);
        Check.due("converts free to classical cumulants", x.as(1, 2, 4), -25);
        Check.due("counts partitions that a half turn leaves as they are", x.evens(), 6);
        Check.due("executes orders from a text", Edges.done(x, "k3 3;n5;x2 1;"), 3);
        Check.due("executes orders from a text", x.count(0), 5);
        x.back();
        Check.due("goes back to earlier states: count(0)", x.count(0), 4);
        Check.due("goes back to earlier states: x(2)", x.as(0, 0, 2), 5);
        Edges.rows("goes back to earlier states", x, 3, "0003");
    }

    /** Each number of the row is the lowest point of a block, and the blocks have all of the points. */
    private static void blocks(String at, UncrossedParts x, int s, int n) {
        int blocks = 0;
        for (int p = 0; p < n; p++) {
            int low = x.row(s, p);
            Check.holds(at + ": " + low + " is the lowest point of the block of " + p,
                low >= 0 && low <= p && x.row(s, low) == low);
            blocks += low == p ? 1 : 0;
        }
        Check.due(at + ": as many blocks as the rank tells", blocks, n - x.of(s, 1));
    }

    @Sentence(words = "A partition divides the points into blocks.")
    @Broken(in = "void meet(", was = "int y = x - 1; y >= 0; y--", is = "int y = 0; y < x; y++")
    @Broken(in = "void takeCycles(", was = "made.low[y] = x;", is = "made.low[y] = k > 1 ? y - 1 : x;")
    @Broken(in = "void takePlace(", was = "made.low[x] = lows[chosen]", is = "made.low[x] = chosen > 1 ? lows[chosen] : x - 1")
    static void blocksOfPartition() {
        for (int k = 0; k < 42; k++) {
            UncrossedParts x = Edges.at(5);
            x.takes(0, k);
            x.complements(1, 0);
            x.turns(2, 1);
            x.puts(2, 0, k % 5);
            x.joins(3, 1, 2);
            x.takes(4, 0);
            x.meets(4, 4, 0);
            for (int s = 0; s < 5; s++) {
                blocks("partition " + k + ", slot " + s, x, s, 5);
            }
        }
    }

    private static boolean crosses(UncrossedParts x, int s, int n) {
        for (int a = 0; a < n; a++) {
            for (int b = a + 1; b < n; b++) {
                for (int c = b + 1; c < n; c++) {
                    for (int d = c + 1; d < n; d++) {
                        int one = x.row(s, a);
                        int other = x.row(s, b);
                        if (one != other && x.row(s, c) == one && x.row(s, d) == other) {
                            return true;
                        }
                    }
                }
            }
        }
        return false;
    }

    @Sentence(words = "; only such partitions are meant in the following, if nothing else is said.")
    @Broken(in = "int unite(", was = "return putMade(s)",
        is = "made.copy(now.parts[s]); made.low[y] = made.low[x]; return putMade(s)")
    @Broken(in = "void uncomplement(", was = "complement.previous(y)", is = "complement.next(y)")
    @Broken(in = "CATALAN = {", was = "14", is = "15")
    @Broken(in = "int ranked(", was = "return inner", is = "return n == 4 && k == 2 ? 7 : inner")
    @Broken(in = "LONG_CHAINS = {", was = "16", is = "18")
    @Broken(in = "int moebiusOfProduct(", was = "int product = 1", is = "int product = points == 4 && rank() == 3 ? 2 : 1")
    @Broken(in = "public int evens()", was = "choose(n, n / 2)", is = "choose(n, n / 2) + n / 4")
    @Broken(in = "int coverOf(", was = " && unites(a, x, y)", is = " && (unites(a, x, y) || a.points == 4)")
    static void onlyNoncrossing() {
        for (int a = 0; a < 42; a++) {
            for (int b = 0; b < 42; b++) {
                UncrossedParts x = Edges.at(5);
                x.takes(0, a);
                x.takes(1, b);
                x.meets(2, 0, 1);
                x.joins(3, 0, 1);
                x.complements(4, 0);
                x.turns(5, 1);
                x.puts(0, a % 5, b % 5);
                for (int s = 0; s < 6; s++) {
                    Check.holds("partitions " + a + " and " + b + ": slot " + s + " is noncrossing", !crosses(x, s, 5));
                }
            }
        }
        // Of the fifteen partitions of four points, the one with 0 and 2, and 1 and 3, is not meant.
        UncrossedParts x = new UncrossedParts();
        x.takes(5, 0);
        x.puts(1, 0, 2);
        Check.due("count(1)", x.count(1), 14);
        Check.due("count(4)", x.count(4), 6);
        Check.due("evens()", x.evens(), 6);
        Check.due("of(0, 0)", x.of(0, 0), 13);
        Check.due("of(1, 4)", x.of(1, 4), 2);
        Check.due("covers(1, 2)", x.covers(1, 2), -1);
        Check.due("of(5, 5)", x.of(5, 5), 6);
        Check.due("between(0, 5)", x.between(0, 5), 14);
        Check.due("chains(0, 5)", x.chains(0, 5), 16);
        Check.due("signed(0, 5)", x.signed(0, 5), -5);
    }

    @Sentence(words = "The complement of A (Kreweras complement) is the partition whose blocks are the cycles of the"
        + " permutation K:")
    @Broken(in = "void complement(", was = "a.previous(after(x, a.points))", is = "a.next(after(x, a.points))")
    @Broken(in = "void complement(", was = "a.previous(after(x, a.points))", is = "after(a.next(x), a.points)")
    @Broken(in = "void takeCycles(", was = "y = step[y];", is = "y = step[x];")
    @Broken(in = "void takeCycles(", was = "k < n && y != x", is = "k < 2 && y != x")
    static void cyclesOfComplement() {
        AllParts parts = AllParts.of(5);
        for (int a = 0; a < parts.size(); a++) {
            UncrossedParts x = Edges.at(5);
            x.takes(0, a);
            x.complements(1, 0);
            Check.due("the complement of partition " + a, x.of(1, 0), parts.complement(a));
        }
        // 0 and 2 together, 1 and 3: P is 2, 1, 0, 3, so K leads from 0 to 1, from 1 to 0, from 2 to 3, from 3 to 2.
        UncrossedParts x = new UncrossedParts();
        x.puts(0, 0, 2);
        x.complements(0, 0);
        Edges.rows("complements(0, 0)", x, 0, "0022");
    }

    /** Counts the chains from the partition on, by their labels, from step to step as covers() and mark() tell them. */
    private static void climb(int partition, int labels, int[] counts) {
        UncrossedParts x = new UncrossedParts();
        x.takes(0, partition);
        if (partition == 0) {
            counts[labels]++;
        }
        int covers = x.of(0, 4);
        for (int i = 0; i < covers; i++) {
            int upper = x.covers(0, i);
            Check.holds("covers(0, " + i + ") of partition " + partition + " is " + upper, upper >= 0 && upper < partition);
            if (upper >= 0 && upper < partition) {
                x.takes(1, upper);
                climb(upper, Math.min(10 * labels + x.mark(0, 1), counts.length - 1), counts);
            }
        }
    }

    @Sentence(words = "; its labels are those of its steps, in their order.")
    @Broken(in = "boolean isParking(", was = "lower < k", is = "lower < k - 1")
    @Broken(in = "boolean isParking(", was = "rest % 10 < k", is = "rest % 10 <= k")
    @Broken(in = "boolean isParking(", was = "int i = 1", is = "int i = 2")
    @Broken(in = "int labelTo(", was = "label = x", is = "label = first")
    @Broken(in = "public int mark(", was = "return lower.labelTo(upper)", is = "return 2 - lower.labelTo(upper)")
    static void labelsOfChain() {
        int[] counts = new int[1000];
        climb(13, 0, counts);
        UncrossedParts x = new UncrossedParts();
        int sum = 0;
        for (int v = 0; v < 1000; v++) {
            if (v % 500 == 0) {
                x = new UncrossedParts();
            }
            if (!(v + "").matches(".*[89].*")) {
                Check.due("marked(" + v + ")", x.marked(v), counts[v]);
            }
            sum += counts[v];
        }
        Check.due("all chains of four points", sum, 16);
    }

    @Sentence(words = "They may be seen as moments m (kind 0), free cumulants f (kind 1) or classical cumulants u (kind 2).")
    @Broken(in = "long remainder(", was = "kind == 1 ? powers", is = "kind == 2 ? powers")
    @Broken(in = "long remainder(", was = "if (kind == 0)", is = "if (kind == 2)")
    @Broken(in = "void convert(", was = "remainder(from, n, given)", is = "remainder(to, n, given)")
    @Broken(in = "void convert(", was = "remainder(to, n, wanted)", is = "remainder(from, n, wanted)")
    static void kindsOfNumbers() {
        UncrossedParts x = new UncrossedParts();
        x.number(1, 2);
        x.number(2, 3);
        x.number(3, -4);
        x.number(4, 5);
        // Free cumulants: 5 + 4 * 2 * -4 + 2 * 9 + 6 * 4 * 3 + 16; classical ones: 5 + 4 * 2 * -4 + 3 * 9 + 6 * 4 * 3 + 16.
        long[][] moments = {{2, 3, -4, 5}, {2, 7, 22, 79}, {2, 7, 22, 88}};
        for (int j = 0; j < 3; j++) {
            for (int n = 1; n <= 4; n++) {
                Check.due("as(" + j + ", 0, " + n + ")", x.as(j, 0, n), moments[j][n - 1]);
                Check.due("as(" + j + ", " + j + ", " + n + ")", x.as(j, j, n), moments[0][n - 1]);
            }
        }
        // Numbers that are seen as moments give the cumulants of which they are the moments.
        UncrossedParts y = new UncrossedParts();
        y.number(1, 2);
        y.number(2, 7);
        Check.due("as(0, 1, 2)", y.as(0, 1, 2), 3);
        Check.due("as(0, 2, 2)", y.as(0, 2, 2), 3);
        Check.due("as(0, 1, 3)", y.as(0, 1, 3), -26);
        Check.due("as(0, 2, 3)", y.as(0, 2, 3), -26);
        Check.due("as(1, 2, 4)", x.as(1, 2, 4), -4);
        Check.due("as(2, 1, 4)", x.as(2, 1, 4), 14);
    }
}
