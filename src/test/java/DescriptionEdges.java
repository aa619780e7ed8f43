/** The boundary cases of what is said of partitions, covers, chains and intervals before the promises. */
final class DescriptionEdges {
    private static final int[] PARTITIONS = {1, 2, 5, 14, 42, 132, 429, 1430};

    private DescriptionEdges() {
    }

    @Sentence(words = "There are N points, 0 to N - 1, on a circle, where N is 1 to 8 (at first 4).")
    @Broken(in = "int FIRST_POINTS", was = "4", is = "3")
    @Broken(in = "boolean isPoint(", was = "x < now.points", is = "x <= now.points")
    @Broken(in = "boolean isPoint(", was = "x < now.points", is = "x < now.points - 1")
    @Broken(in = "boolean isPoint(", was = "x >= 0", is = "x >= 1")
    @Broken(in = "int changePoints(", was = "k < 1", is = "k < 2")
    @Broken(in = "int MOST_POINTS", was = "8", is = "7")
    static void pointsOfCircle() {
        Check.due("at first: count(0)", new UncrossedParts().count(0), 4);
        Check.due("at first: row(0, 3)", new UncrossedParts().row(0, 3), 3);
        Check.due("at first: row(0, 4)", new UncrossedParts().row(0, 4), -2);
        for (int n = 1; n <= 8; n++) {
            UncrossedParts x = Edges.at(n);
            Check.due(n + " points: row(0, 0)", x.row(0, 0), 0);
            Check.due(n + " points: the last point", x.row(0, n - 1), n - 1);
            Check.due(n + " points: one point more", x.row(0, n), -2);
            Check.due(n + " points: the point before 0", x.row(0, -1), -2);
            Check.due(n + " points: puts of the last one", x.puts(0, n - 1, 0), n > 1 ? 1 : 0);
            Check.due(n + " points: puts of one more", x.puts(0, n, 0), -2);
        }
        UncrossedParts x = new UncrossedParts();
        Check.due("points(0)", x.points(0), -2);
        Check.due("points(9)", x.points(9), -2);
    }

    @Sentence(words = "Two blocks cross if there are points a < b < c < d such that a and c are in the one block and b and"
        + " d in the other one.")
    @Broken(in = "void uncomplement(", was = "complement.previous(y)", is = "complement.next(y)")
    @Broken(in = "int unite(", was = "lattice.join(", is = "lattice.meet(")
    @Broken(in = "int unite(", was = "return putMade(s)",
        is = "made.copy(now.parts[s]); made.low[y] = made.low[x]; return putMade(s)")
    static void crossing() {
        UncrossedParts x = new UncrossedParts();
        x.puts(0, 0, 2);
        Check.due("0 and 2, 1 and 3 cross", x.puts(0, 1, 3), 3);
        x.puts(1, 0, 3);
        Check.due("0 and 3, 1 and 2 do not", x.puts(1, 1, 2), 2);
        x.puts(2, 0, 1);
        Check.due("0 and 1, 2 and 3 do not", x.puts(2, 2, 3), 2);
        x.points(8);
        x.puts(0, 0, 7);
        x.puts(0, 1, 6);
        x.puts(0, 2, 5);
        Check.due("four, each inside of another one", x.puts(0, 3, 4), 4);
        Edges.rows("four, each inside of another one", x, 0, "01233210");
        Check.due("the outermost one and the innermost one", x.puts(0, 0, 3), 7);
        x.puts(1, 0, 4);
        Check.due("the last point crosses", x.puts(1, 3, 7), 3);
        Edges.rows("the last point crosses", x, 1, "01200560");
    }

    @Sentence(words = "A partition is noncrossing if no two of its blocks cross")
    @Broken(in = "CATALAN = {", was = "14", is = "15")
    @Broken(in = "void countWays()", was = "c <= d + 1", is = "c <= d + 2")
    @Broken(in = "int coverOf(", was = " && unites(a, x, y)", is = " && (unites(a, x, y) || a.points == 4)")
    static void noncrossing() {
        int[] every = {1, 2, 5, 15};
        for (int n = 1; n <= 4; n++) {
            UncrossedParts x = Edges.at(n);
            int crossing = n < 4 ? 0 : 1;
            Check.due(n + " points: count(1)", x.count(1), every[n - 1] - crossing);
            Check.due(n + " points: the number of the last one", x.of(0, 0), every[n - 1] - crossing - 1);
        }
        // 0101 is left out between 0100 and 0103.
        UncrossedParts x = new UncrossedParts();
        x.takes(0, 5);
        Edges.rows("takes(0, 5)", x, 0, "0100");
        x.takes(0, 6);
        Edges.rows("takes(0, 6)", x, 0, "0103");
        x.takes(1, 6);
        Check.due("0 and 2 are in one block of it, 1 and 3 not yet", x.row(1, 2), 0);
        Check.due("so only two others cover it", x.of(1, 4), 2);
        Check.due("covers(1, 2)", x.covers(1, 2), -1);
    }

    @Sentence(words = "The row of a partition is the sequence of the N numbers that give, for each point, the lowest point"
        + " of its block.")
    @Broken(in = "public int row(", was = "low[x]", is = "next(x)")
    @Broken(in = "public int row(", was = "low[x]", is = "previous(x)")
    static void rowOfPartition() {
        Edges.rows("one point", Edges.at(1), 0, "0");
        UncrossedParts x = Edges.at(8);
        Edges.rows("the finest one", x, 0, "01234567");
        x.takes(0, 0);
        Edges.rows("the coarsest one", x, 0, "00000000");
        x.puts(1, 7, 5);
        x.puts(1, 5, 3);
        Edges.rows("a block with the last point", x, 1, "01234363");
    }

    @Sentence(words = "The partitions are numbered from 0 in the lexicographic order of their rows.")
    @Broken(in = "int placeOf(", was = "int place = 0", is = "int place = 1")
    @Broken(in = "int placeOf(", was = "int x = 0", is = "int x = 2")
    @Broken(in = "void takePlace(", was = "int left = place", is = "int left = CATALAN[n] - 1 - place")
    @Broken(in = "int placeOf(", was = "x < part.points", is = "x < part.points - 1")
    static void numbered() {
        for (int n = 1; n <= 8; n++) {
            UncrossedParts x = Edges.at(n);
            Check.due(n + " points: the finest one is the last one", x.of(0, 0), PARTITIONS[n - 1] - 1);
            x.takes(0, 0);
            Edges.rows(n + " points: the first one", x, 0, "00000000".substring(0, n));
            Check.due(n + " points: the first one", x.of(0, 0), 0);
        }
        UncrossedParts x = new UncrossedParts();
        int last = -1;
        for (int k = 0; k < 14; k++) {
            x.takes(0, k);
            int row = 1000 * x.row(0, 0) + 100 * x.row(0, 1) + 10 * x.row(0, 2) + x.row(0, 3);
            Check.holds("row " + row + " of partition " + k + " is behind row " + last, row > last);
            Check.due("its number", x.of(0, 0), k);
            last = row;
        }
    }

    @Sentence(words = "A partition A is below a partition B if each block of A is contained in a block of B (so A is below"
        + " itself).")
    @Broken(in = "public int below(", was = "return board", is = "return a != b && board")
    @Broken(in = "boolean isUnder(", was = "for", is = "if (upper.rank() == rank()) { return false; } for")
    @Broken(in = "public int below(", was = "? 1 : 0", is = "? 0 : 1")
    static void belowOne() {
        UncrossedParts x = Edges.at(8);
        x.takes(5, 0);
        x.takes(4, 0);
        x.puts(1, 0, 7);
        Check.due("itself", x.below(1, 1), 1);
        Check.due("an equal one in another slot", x.below(4, 5), 1);
        Check.due("the finest one is below all", x.below(0, 1), 1);
        Check.due("all are below the coarsest one", x.below(1, 5), 1);
        Check.due("the coarsest one is below itself alone", x.below(5, 1), 0);
        Check.due("only the finest one is below the finest one", x.below(1, 0), 0);
        UncrossedParts one = Edges.at(1);
        Check.due("one point", one.below(0, 5), 1);
    }

    @Sentence(words = "The rank of a partition is N minus the number of its blocks.")
    @Broken(in = "int rank()", was = "int rank = 0", is = "int rank = 1")
    @Broken(in = "int rank()", was = "x < points", is = "x < points - 1")
    @Broken(in = "int rank()", was = "isLowest(x) ? 0 : 1", is = "isLowest(x) ? 1 : 0")
    static void rank() {
        for (int n = 1; n <= 8; n++) {
            UncrossedParts x = Edges.at(n);
            x.takes(5, 0);
            Check.due(n + " points, all of them blocks: of(0, 1)", x.of(0, 1), 0);
            Check.due(n + " points in one block: of(5, 1)", x.of(5, 1), n - 1);
        }
    }

    @Sentence(words = "The meet of A and B is the partition with the greatest rank that is below both, the join the one"
        + " with the lowest rank that both are below.")
    @Broken(in = "void meet(", was = "&& b", is = "|| b")
    @Broken(in = "void meet(", was = "int x = 0", is = "int x = 2")
    @Broken(in = "void meet(", was = "x < a.points", is = "x < a.points - 1")
    @Broken(in = "void join(", was = "complement(second, b)", is = "complement(second, a)")
    @Broken(in = "void join(", was = "meet(shared, first, second)", is = "shared.split(a.points)")
    static void meetAndJoin() {
        for (int n = 1; n <= 8; n++) {
            UncrossedParts x = Edges.at(n);
            x.takes(5, 0);
            x.puts(1, 0, n - 1);
            int[] others = {0, 1, 5};
            for (int s : others) {
                String at = n + " points, slot " + s + ": ";
                x.meets(2, s, 5);
                Check.due(at + "the meet with the coarsest one", x.of(2, 0), x.of(s, 0));
                x.meets(2, s, 0);
                Check.due(at + "the meet with the finest one", x.of(2, 0), x.of(0, 0));
                x.joins(2, s, 0);
                Check.due(at + "the join with the finest one", x.of(2, 0), x.of(s, 0));
                x.joins(2, s, 5);
                Check.due(at + "the join with the coarsest one", x.of(2, 0), 0);
            }
        }
        UncrossedParts x = Edges.at(8);
        x.puts(0, 0, 4);
        x.puts(1, 3, 7);
        Check.due("the meet of crossing blocks", x.meets(2, 0, 1), 0);
        Check.due("the join of crossing blocks", x.joins(2, 0, 1), 3);
        x.puts(3, 6, 7);
        x.puts(3, 0, 1);
        x.joins(4, 3, 3);
        x.puts(4, 1, 6);
        Check.due("a meet at both ends", x.meets(5, 3, 4), 2);
        Edges.rows("a meet at both ends", x, 5, "00234566");
    }

    @Sentence(words = "A partition is rotated by putting the point x + 1 in the place of each point x (0 in that of N"
        + " - 1).")
    @Broken(in = "int after(", was = ": 0", is = ": x")
    @Broken(in = "void turn(", was = "after(a.next(x), a.points)", is = "a.next(x)")
    @Broken(in = "void turn(", was = "step[after(x, a.points)] = after(a.next(x), a.points)",
        is = "step[x] = a.next(x)")
    static void rotated() {
        UncrossedParts x = Edges.at(8);
        x.puts(0, 6, 7);
        String[] due = {"01234560", "00234567", "01134567", "01224567", "01233567", "01234467", "01234557", "01234566"};
        for (int i = 0; i < 8; i++) {
            x.turns(0, 0);
            Edges.rows("6 and 7, " + (i + 1) + " times", x, 0, due[i]);
        }
        x = Edges.at(1);
        x.turns(0, 0);
        Edges.rows("one point", x, 0, "0");
        x = Edges.at(2);
        x.puts(0, 0, 1);
        x.turns(0, 0);
        Edges.rows("two points", x, 0, "00");
        x = Edges.at(3);
        x.puts(0, 0, 1);
        x.turns(0, 0);
        Edges.rows("three points", x, 0, "011");
        x.turns(0, 0);
        Edges.rows("three points", x, 0, "010");
    }

    @Sentence(words = "let P(x) be the next greater point of the block of x, or the lowest point of the block if x is its"
        + " greatest one; K(x) is the point y with P(y) = x + 1, and with P(y) = 0 for x = N - 1.")
    @Broken(in = "void complement(", was = "a.previous(after(x, a.points))", is = "a.next(after(x, a.points))")
    @Broken(in = "void complement(", was = "a.previous(after(x, a.points))", is = "after(a.previous(x), a.points)")
    @Broken(in = "int previous(", was = "int y = points - 1", is = "int y = points - 2")
    @Broken(in = "int after(", was = "x + 1 < n ? x + 1 : 0", is = "x + 1 < n ? x + 1 : n - 1")
    static void complement() {
        UncrossedParts x = Edges.at(8);
        x.puts(1, 0, 7);
        x.puts(2, 6, 7);
        x.puts(3, 3, 0);
        x.puts(3, 7, 3);
        x.takes(5, 0);
        String[] due = {"00000000", "00000007", "00000060", "00033337", "00000000", "01234567"};
        for (int s = 0; s < 6; s++) {
            x.complements(s, s);
            Edges.rows("the complement of slot " + s, x, s, due[s]);
        }
        x.complements(1, 1);
        Edges.rows("the complement of 0 to 6", x, 1, "01234566");
        x = Edges.at(1);
        x.complements(0, 0);
        Edges.rows("one point", x, 0, "0");
        x = Edges.at(2);
        x.complements(0, 0);
        Edges.rows("two points apart", x, 0, "00");
        x.complements(0, 0);
        Edges.rows("two points together", x, 0, "01");
    }

    @Sentence(words = "There are six slots, 0 to 5; each holds a partition, at first the one in which every point is a block"
        + " by itself.")
    @Broken(in = "boolean isSlot(", was = "s < SLOTS", is = "s < SLOTS - 1")
    @Broken(in = "boolean isSlot(", was = "s < SLOTS", is = "s <= SLOTS")
    @Broken(in = "boolean isSlot(", was = "s >= 0", is = "s >= 1")
    @Broken(in = "boolean isSlot(", was = "s >= 0", is = "s >= -1")
    @Broken(in = " Part() {", was = "split(FIRST_POINTS);", is = "split(FIRST_POINTS); low[3] = 0;")
    static void sixSlots() {
        UncrossedParts x = new UncrossedParts();
        for (int s = 0; s < 6; s++) {
            Edges.rows("at first", x, s, "0123");
            Check.due("at first: of(" + s + ", 0)", x.of(s, 0), 13);
        }
        int[] none = {-1, 6, Edges.LOWEST, Edges.GREATEST};
        for (int s : none) {
            Check.due("of(" + s + ", 0)", x.of(s, 0), -2);
            Check.due("row(" + s + ", 0)", x.row(s, 0), -2);
            Check.due("puts(" + s + ", 0, 0)", x.puts(s, 0, 0), -2);
            Check.due("meets(0, 0, " + s + ")", x.meets(0, 0, s), -2);
        }
        // What is put into one slot is in no other one.
        for (int s = 0; s < 6; s++) {
            x.takes(s, s);
        }
        for (int s = 0; s < 6; s++) {
            Check.due("of(" + s + ", 0)", x.of(s, 0), s);
        }
    }

    @Sentence(words = "A covers B if B is below A and the rank of A is 1 more than that of B; then two blocks of B are"
        + " united in A.")
    @Broken(in = "public int mark(", was = "lower.rank() + 1", is = "lower.rank() + 2")
    @Broken(in = "public int mark(", was = "!lower.isUnder(upper) || ", is = "")
    @Broken(in = "public int mark(", was = "upper.rank() != lower.rank() + 1", is = "upper.rank() < lower.rank()")
    @Broken(in = "boolean unites(", was = "a.rank() + 1", is = "a.rank() + 2")
    static void covering() {
        UncrossedParts x = Edges.at(2);
        x.takes(1, 0);
        Check.due("two points: one step", x.mark(0, 1), 0);
        Check.due("two points: one step back", x.mark(1, 0), -3);
        Check.due("two points: no step", x.mark(0, 0), -3);
        Check.due("two points: what covers the finest one", x.covers(0, 0), 0);
        x.points(8);
        x.puts(1, 0, 7);
        x.joins(2, 0, 1);
        x.puts(2, 1, 2);
        x.puts(3, 1, 2);
        x.puts(3, 4, 5);
        Check.due("rank 0 and 1", x.mark(0, 1), 0);
        Check.due("rank 1 and 2", x.mark(1, 2), 1);
        Check.due("rank 1 and 2, not below", x.mark(1, 3), -3);
        Check.due("rank 0 and 2", x.mark(0, 2), -3);
        Check.due("rank 2 and 2", x.mark(2, 3), -3);
        Check.due("rank 2 and 1", x.mark(2, 1), -3);
        x.takes(4, 0);
        Check.due("rank 2 and 7", x.mark(2, 4), -3);
        x.takes(5, 1);
        Check.due("rank 6 and 7", x.mark(5, 4), 6);
    }

    @Sentence(words = "Let the first one be the one of these that contains the lower least point, and the second one the"
        + " other; the label of this step is the greatest point of the first one that is lower than all points of the second"
        + " one.")
    @Broken(in = "int labelTo(", was = "label = x", is = "label = first")
    @Broken(in = "int labelTo(", was = "x < second", is = "x < points")
    @Broken(in = "int labelTo(", was = "x < second", is = "x < second - 1")
    @Broken(in = "int labelTo(", was = "int x = first", is = "int x = second - 1")
    static void label() {
        UncrossedParts x = Edges.at(8);
        // The second block lies inside the first one: 0, 5, 6, 7 and 1 to 4; before it the first one has 0 alone.
        x.takes(1, 0);
        x.puts(0, 0, 7);
        x.puts(0, 0, 6);
        x.puts(0, 0, 5);
        x.puts(0, 1, 4);
        x.puts(0, 1, 3);
        x.puts(0, 1, 2);
        Check.due("inside, behind 0", x.mark(0, 1), 0);
        // 0, 1, 2, 3 and 7, and the others inside.
        x.points(8);
        x.takes(1, 0);
        x.puts(0, 0, 7);
        x.puts(0, 0, 1);
        x.puts(0, 0, 2);
        x.puts(0, 0, 3);
        x.puts(0, 4, 5);
        x.puts(0, 4, 6);
        Check.due("inside, behind 3", x.mark(0, 1), 3);
        // 0 to 6, and 7.
        x.takes(0, 1);
        Check.due("the last point", x.mark(0, 1), 6);
        // All but 6, and 6.
        x.points(8);
        x.takes(1, 0);
        x.puts(0, 0, 7);
        for (int p = 1; p < 6; p++) {
            x.puts(0, 0, p);
        }
        Check.due("the last but one", x.mark(0, 1), 5);
        // 0, and the others.
        x.points(8);
        x.takes(1, 0);
        for (int p = 2; p < 8; p++) {
            x.puts(0, 1, p);
        }
        Check.due("the first point", x.mark(0, 1), 0);
        // 0 and 1, and 5.
        x.points(8);
        x.puts(0, 0, 1);
        x.puts(1, 0, 1);
        x.puts(1, 1, 5);
        Check.due("with others between them", x.mark(0, 1), 1);
    }

    @Sentence(words = "A chain from A to B is a sequence of partitions that begins with A and ends with B, in which each one"
        + " is covered by the next one")
    @Broken(in = "public int chains(", was = "return error == 0", is = "return a == b ? 0 : error == 0")
    @Broken(in = "LONG_CHAINS = {", was = "{1, 1, 1", is = "{1, 1, 2")
    @Broken(in = "LONG_CHAINS = {", was = "{1, 1", is = "{1, 0")
    static void chain() {
        UncrossedParts x = Edges.at(1);
        Check.due("one point: from the only partition to itself", x.chains(0, 5), 1);
        Check.due("one point: its labels are none", x.marked(0), 1);
        x.points(2);
        x.takes(5, 0);
        Check.due("two points: no step", x.chains(0, 0), 1);
        Check.due("two points: no step", x.chains(5, 5), 1);
        Check.due("two points: one step", x.chains(0, 5), 1);
        x.points(3);
        x.takes(5, 0);
        Check.due("three points: two steps", x.chains(0, 5), 3);
        x.puts(1, 0, 2);
        Check.due("three points: the first step", x.chains(0, 1), 1);
        Check.due("three points: the second step", x.chains(1, 5), 1);
    }

    @Sentence(words = "The Möbius value of A and B, where A is below B, is 1 if they are equal, and otherwise minus the sum of"
        + " the Möbius values of A and C over all C, except B, such that A is below C and C is below B.")
    @Broken(in = "public int signed(", was = "return error == 0", is = "return a == b ? 0 : error == 0")
    @Broken(in = "int moebiusOfProduct(", was = "size % 2 == 1", is = "size < 2")
    @Broken(in = "int moebiusOfProduct(", was = "return product", is = "return rank() == 0 ? -product : product")
    @Broken(in = "int moebiusOfProduct(", was = "int product = 1", is = "int product = points < 8 ? 1 : -1")
    static void moebius() {
        UncrossedParts x = Edges.at(1);
        Check.due("one point: equal", x.signed(0, 5), 1);
        for (int n = 2; n <= 5; n++) {
            x = Edges.at(n);
            int last = PARTITIONS[n - 1] - 1;
            int sum = 0;
            x.takes(5, 0);
            // All but the coarsest one, whose number is 0; the finest one with itself is among them.
            for (int k = 1; k <= last; k++) {
                x.takes(1, k);
                sum += x.signed(0, 1);
            }
            Check.due(n + " points: the last value", x.signed(0, 1), 1);
            Check.due(n + " points: minus the sum", x.signed(0, 5), -sum);
            Check.due(n + " points: equal", x.signed(5, 5), 1);
        }
        x = Edges.at(8);
        x.takes(5, 0);
        Check.due("eight points", x.signed(0, 5), -429);
        Check.due("eight points: equal", x.signed(0, 0), 1);
    }
}
