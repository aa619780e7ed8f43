/** The boundary cases of promises 9 to 13, the queries about partitions and their numbers. */
final class QueryEdges {
    private static final int[] PARTITIONS = {1, 2, 5, 14, 42, 132, 429, 1430};

    private QueryEdges() {
    }

    @Sentence(promise = 9, words = "s: the slot")
    @Broken(in = "public int of(", was = "!isSlot(s)", is = "s < 1 || s >= SLOTS")
    @Broken(in = "public int of(", was = "!isSlot(s)", is = "s < 0 || s >= SLOTS - 1")
    @Broken(in = "public int of(", was = "!isSlot(s)", is = "s < 0 || s > SLOTS")
    @Broken(in = "public int of(", was = "property(s, what)", is = "property(s < 5 ? s : 0, what)")
    static void ofSlot() {
        Edges.slots("of", (x, s) -> x.of(s, 0));
        UncrossedParts x = Edges.at(8);
        x.takes(5, 0);
        Check.due("of(0, 1)", x.of(0, 1), 0);
        Check.due("of(5, 1)", x.of(5, 1), 7);
    }

    @Sentence(promise = 9, words = "what: 0 for its number, 1 for its rank, 2 for the number of its blocks with only one"
        + " point, 3 for the number of points of its largest block, 4 for the number of partitions that cover it, 5 for"
        + " the number of partitions that it covers")
    @Broken(in = "public int of(", was = "what < 0", is = "what < 1")
    @Broken(in = "public int of(", was = "what < 0", is = "what < -1")
    @Broken(in = "public int of(", was = "what >= PROPERTIES", is = "what >= PROPERTIES - 1")
    @Broken(in = "public int of(", was = "what >= PROPERTIES", is = "what > PROPERTIES")
    @Broken(in = "int property(", was = "part.singles()", is = "part.largest()")
    @Broken(in = "int property(", was = "part.largest()", is = "part.singles()")
    @Broken(in = "int property(", was = "lattice.coversOf(part)", is = "part.pairs()")
    @Broken(in = "int property(", was = "return part.pairs()", is = "return lattice.coversOf(part)")
    @Broken(in = "int property(", was = "lattice.placeOf(part)", is = "part.rank()")
    @Broken(in = "int property(", was = "part.rank()", is = "part.singles()")
    static void ofWhat() {
        Edges.range("of", 1, 0, 5, (x, what) -> x.of(0, what));
        Edges.range("of", 8, 0, 5, (x, what) -> x.of(5, what));
        UncrossedParts x = Edges.at(8);
        x.takes(5, 0);
        int[] finest = {1429, 0, 8, 1, 28, 0};
        int[] coarsest = {0, 7, 0, 8, 0, 28};
        for (int what = 0; what < 6; what++) {
            Check.due("the finest one: of(0, " + what + ")", x.of(0, what), finest[what]);
            Check.due("the coarsest one: of(5, " + what + ")", x.of(5, what), coarsest[what]);
        }
        x.points(1);
        int[] single = {0, 0, 1, 1, 0, 0};
        for (int what = 0; what < 6; what++) {
            Check.due("one point: of(0, " + what + ")", x.of(0, what), single[what]);
        }
    }

    @Sentence(promise = 9, words = "Returns the property")
    @Broken(in = "int singles()", was = "== 1", is = "<= 2")
    @Broken(in = "int largest()", was = "int x = 0", is = "int x = 1")
    @Broken(in = "int largest()", was = "x < points", is = "x < points - 1")
    @Broken(in = "int singles()", was = "x < points", is = "x < points - 1")
    @Broken(in = "int singles()", was = "int x = 0", is = "int x = 1")
    @Broken(in = "int pairs()", was = "int x = 0", is = "int x = 1")
    @Broken(in = "int coversOf(", was = "complement(first, part)", is = "first.copy(part)")
    static void ofReturns() {
        UncrossedParts x = Edges.at(8);
        // All but the last point, all but the first one, and two blocks of the same size.
        for (int p = 1; p < 7; p++) {
            x.puts(0, 0, p);
            x.puts(1, 1, p + 1);
        }
        x.puts(2, 0, 7);
        x.puts(2, 3, 4);
        int[][] due = {{0, 6, 1, 7, 1, 21}, {0, 6, 1, 7, 1, 21}, {0, 2, 4, 2, 15, 2}};
        for (int s = 0; s < 3; s++) {
            for (int what = 1; what < 6; what++) {
                Check.due("of(" + s + ", " + what + ")", x.of(s, what), due[s][what]);
            }
        }
        x.points(2);
        x.takes(1, 0);
        int[] apart = {1, 0, 2, 1, 1, 0};
        int[] together = {0, 1, 0, 2, 0, 1};
        for (int what = 0; what < 6; what++) {
            Check.due("two points apart: of(0, " + what + ")", x.of(0, what), apart[what]);
            Check.due("two points together: of(1, " + what + ")", x.of(1, what), together[what]);
        }
        x.points(1);
        Check.due("one point: of(0, 2)", x.of(0, 2), 1);
        Check.due("one point: of(0, 3)", x.of(0, 3), 1);
    }

    @Sentence(promise = 9, words = "BAD if there is no such slot or what is not 0 to 5")
    @Broken(in = "public int of(", was = "return bad()", is = "return no()")
    @Broken(in = "public int of(", was = "return bad()", is = "return BAD")
    @Broken(in = "public int of(", was = "!isSlot(s)", is = "!isSlot(s) && s < 2147483647")
    @Broken(in = "public int of(", was = "what < 0", is = "what == -1")
    @Broken(in = "public int of(", was = "what >= PROPERTIES", is = "what == 6")
    static void ofBad() {
        Edges.bad("of", 8, 0, 5, (x, s) -> x.of(s, 3));
        Edges.bad("of", 8, 0, 5, (x, what) -> x.of(3, what));
        Edges.refused("of(6, 6)", 8, -2, x -> x.of(6, 6));
        Edges.refused("of(-1, -1)", 1, -2, x -> x.of(-1, -1));
    }

    @Sentence(promise = 10, words = "s: the slot")
    @Broken(in = "public int row(", was = "!isSlot(s)", is = "s < 1 || s >= SLOTS")
    @Broken(in = "public int row(", was = "!isSlot(s)", is = "s < 0 || s >= SLOTS - 1")
    @Broken(in = "public int row(", was = "!isSlot(s)", is = "s < 0 || s > SLOTS")
    @Broken(in = "public int row(", was = "board.part(s)", is = "board.part(s < 5 ? s : 0)")
    static void rowSlot() {
        Edges.slots("row", (x, s) -> x.row(s, 0));
        UncrossedParts x = Edges.at(8);
        x.takes(5, 0);
        Check.due("row(0, 7)", x.row(0, 7), 7);
        Check.due("row(5, 7)", x.row(5, 7), 0);
    }

    @Sentence(promise = 10, words = "x: the point")
    @Broken(in = "public int row(", was = "!board.isPoint(x)", is = "x < 1 || !board.isPoint(x)")
    @Broken(in = "public int row(", was = "!board.isPoint(x)", is = "x < 0 || x >= board.now.points - 1")
    @Broken(in = "public int row(", was = "!board.isPoint(x)", is = "x < 0 || x >= MOST_POINTS")
    @Broken(in = "public int row(", was = "!board.isPoint(x)", is = "x < 0 || x > MOST_POINTS")
    static void rowPoint() {
        Edges.points("row", (x, p) -> x.row(5, p));
    }

    @Sentence(promise = 10, words = "Returns the lowest point of the block of x")
    @Broken(in = "public int row(", was = "low[x]", is = "next(x)")
    @Broken(in = "public int row(", was = "low[x]", is = "low[x < 7 ? x : 0]")
    static void rowReturns() {
        UncrossedParts x = Edges.at(8);
        Edges.rows("every point by itself", x, 0, "01234567");
        x.puts(0, 7, 1);
        x.puts(0, 4, 1);
        Edges.rows("one block", x, 0, "01231561");
        x.takes(0, 0);
        Edges.rows("a single block", x, 0, "00000000");
        Edges.rows("one point", Edges.at(1), 5, "0");
    }

    @Sentence(promise = 10, words = "BAD if there is no such slot or point")
    @Broken(in = "public int row(", was = "return bad()", is = "return no()")
    @Broken(in = "public int row(", was = "return bad()", is = "return BAD")
    @Broken(in = "public int row(", was = "!isSlot(s)", is = "!isSlot(s) && s < 2147483647")
    @Broken(in = "public int row(", was = "!board.isPoint(x)", is = "!board.isPoint(x) && x > -2147483648")
    static void rowBad() {
        Edges.bad("row", 8, 0, 5, (x, s) -> x.row(s, 7));
        Edges.bad("row", 8, 0, 7, (x, p) -> x.row(5, p));
        Edges.bad("row", 7, 0, 6, (x, p) -> x.row(5, p));
        Edges.bad("row", 1, 0, 0, (x, p) -> x.row(5, p));
        Edges.refused("row(6, 8)", 8, -2, x -> x.row(6, 8));
    }

    @Sentence(promise = 11, words = "Tells whether the partition of a slot is below that of another slot or of the same"
        + " one.")
    @Broken(in = "public int below(", was = "!isSlot(b)", is = "!isSlot(b) || a == b")
    @Broken(in = "public int below(", was = "return board", is = "return a != b && board")
    static void belowItself() {
        int[] all = {1, 2, 8};
        for (int n : all) {
            UncrossedParts x = Edges.full(n);
            for (int s = 0; s < 6; s++) {
                Check.due(n + " points: below(" + s + ", " + s + ")", x.below(s, s), 1);
            }
        }
    }

    @Sentence(promise = 11, words = "a: a slot")
    @Broken(in = "public int below(", was = "!isSlot(a)", is = "a < 1 || a >= SLOTS")
    @Broken(in = "public int below(", was = "!isSlot(a)", is = "a < 0 || a >= SLOTS - 1")
    @Broken(in = "public int below(", was = "!isSlot(a)", is = "a < 0 || a > SLOTS")
    static void belowFirst() {
        Edges.slots("below", (x, a) -> x.below(a, 5));
    }

    @Sentence(promise = 11, words = "b: a slot")
    @Broken(in = "public int below(", was = "!isSlot(b)", is = "b < 1 || b >= SLOTS")
    @Broken(in = "public int below(", was = "!isSlot(b)", is = "b < 0 || b >= SLOTS - 1")
    @Broken(in = "public int below(", was = "!isSlot(b)", is = "b < 0 || b > SLOTS")
    static void belowSecond() {
        Edges.slots("below", (x, b) -> x.below(0, b));
    }

    @Sentence(promise = 11, words = "Returns 1 if that of a is below that of b, 0 if not")
    @Broken(in = "public int below(", was = "? 1 : 0", is = "? 0 : 1")
    @Broken(in = "public int below(", was = ": 0", is = ": NO")
    @Broken(in = "boolean isUnder(", was = "int x = 0", is = "int x = 2")
    @Broken(in = "boolean isUnder(", was = "x < points", is = "x < points - 1")
    static void belowReturns() {
        UncrossedParts x = Edges.at(8);
        x.takes(5, 0);
        x.puts(1, 0, 1);
        x.puts(2, 0, 7);
        x.puts(3, 0, 7);
        x.puts(3, 0, 1);
        int[][] due = {{1, 1, 1, 1}, {0, 1, 0, 1}, {0, 0, 1, 1}, {0, 0, 0, 1}};
        int[] slots = {0, 1, 2, 5};
        for (int i = 0; i < 4; i++) {
            for (int j = 0; j < 4; j++) {
                Check.due("below(" + slots[i] + ", " + slots[j] + ")", x.below(slots[i], slots[j]), due[i][j]);
            }
        }
        Check.due("below(1, 3)", x.below(1, 3), 1);
        Check.due("below(3, 1)", x.below(3, 1), 0);
        Check.due("what is not below is no error", x.told(1), 0);
    }

    @Sentence(promise = 11, words = "BAD if there is no such slot")
    @Broken(in = "public int below(", was = "return bad()", is = "return no()")
    @Broken(in = "public int below(", was = "return bad()", is = "return BAD")
    @Broken(in = "public int below(", was = "!isSlot(a)", is = "!isSlot(a) && a < 2147483647")
    @Broken(in = "public int below(", was = "!isSlot(b)", is = "!isSlot(b) && b < 2147483647")
    static void belowBad() {
        Edges.bad("below", 8, 0, 5, (x, a) -> x.below(a, 0));
        Edges.bad("below", 8, 0, 5, (x, b) -> x.below(5, b));
        Edges.refused("below(6, 6)", 8, -2, x -> x.below(6, 6));
    }

    @Sentence(promise = 12, words = "what: 0 for N, 1 for the number of partitions, 2 + k for the number of partitions"
        + " with the rank k, k from 0 to 7")
    @Broken(in = "public int count(", was = "what < 0", is = "what < 1")
    @Broken(in = "public int count(", was = "what < 0", is = "what < -1")
    @Broken(in = "public int count(", was = "what >= COUNTS", is = "what >= COUNTS - 1")
    @Broken(in = "public int count(", was = "what >= COUNTS", is = "what > COUNTS")
    @Broken(in = "public int count(", was = "what >= COUNTS", is = "what > board.now.points + 1")
    static void countWhat() {
        for (int n = 1; n <= 8; n++) {
            Edges.range("count", n, 0, 9, (x, what) -> x.count(what));
        }
    }

    @Sentence(promise = 12, words = "Returns the count")
    @Broken(in = "int amount(", was = "what - 2", is = "what - 1")
    @Broken(in = "int amount(", was = "return now.points", is = "return CATALAN[now.points]")
    @Broken(in = "CATALAN = {", was = "{1, 1, 2", is = "{1, 2, 2")
    @Broken(in = "CATALAN = {", was = "1430", is = "1429")
    @Broken(in = "int ranked(", was = "return inner", is = "return k >= n ? 1 : inner")
    @Broken(in = "int ranked(", was = "return inner", is = "return k == 7 ? 0 : inner")
    static void countReturns() {
        int[][] ranks = {{1}, {1, 1}, {1, 3, 1}, {1, 6, 6, 1}, {1, 10, 20, 10, 1}, {1, 15, 50, 50, 15, 1},
            {1, 21, 105, 175, 105, 21, 1}, {1, 28, 196, 490, 490, 196, 28, 1}};
        for (int n = 1; n <= 8; n++) {
            UncrossedParts x = Edges.at(n);
            Check.due(n + " points: count(0)", x.count(0), n);
            Check.due(n + " points: count(1)", x.count(1), PARTITIONS[n - 1]);
            for (int k = 0; k < 8; k++) {
                int due = k < n ? ranks[n - 1][k] : 0;
                Check.due(n + " points: count(" + (2 + k) + ")", x.count(2 + k), due);
            }
        }
    }

    @Sentence(promise = 12, words = "BAD if what is not 0 to 9")
    @Broken(in = "public int count(", was = "return bad()", is = "return no()")
    @Broken(in = "public int count(", was = "return bad()", is = "return BAD")
    @Broken(in = "public int count(", was = "what < 0", is = "what == -1")
    @Broken(in = "public int count(", was = "what >= COUNTS", is = "what == 10")
    static void countBad() {
        Edges.bad("count", 1, 0, 9, (x, what) -> x.count(what));
        Edges.bad("count", 8, 0, 9, (x, what) -> x.count(what));
    }

    @Sentence(promise = 13, words = "Counts the partitions that are the same after they have been rotated N / 2 times.")
    @Broken(in = "public int evens()", was = "choose(n, n / 2)", is = "choose(n, 1)")
    @Broken(in = "public int evens()", was = "choose(n, n / 2)", is = "CATALAN[n]")
    static void evensCounts() {
        // Two points: half a turn is one place, and both partitions stay what they are.
        Check.due("two points: evens()", Edges.at(2).evens(), 2);
        Check.due("two points: count(1)", Edges.at(2).count(1), 2);
        for (int n = 4; n <= 8; n += 4) {
            int same = 0;
            for (int k = 0; k < PARTITIONS[n - 1]; k++) {
                UncrossedParts x = Edges.at(n);
                x.takes(0, k);
                for (int i = 0; i < n / 2; i++) {
                    x.turns(0, 0);
                }
                same += x.of(0, 0) == k ? 1 : 0;
            }
            Check.due(n + " points: evens()", Edges.at(n).evens(), same);
        }
    }

    @Sentence(promise = 13, words = "Returns the number")
    @Broken(in = "public int evens()", was = "choose(n, n / 2)", is = "choose(n, n / 2) % 70")
    @Broken(in = "public int evens()", was = "choose(n, n / 2)", is = "choose(n, n / 2) / n * n")
    static void evensReturns() {
        int[] due = {2, 6, 20, 70};
        for (int n = 2; n <= 8; n += 2) {
            UncrossedParts x = Edges.at(n);
            Check.due(n + " points: evens()", x.evens(), due[n / 2 - 1]);
            Check.due(n + " points: told(1)", x.told(1), 0);
        }
    }

    @Sentence(promise = 13, words = "NO if N is odd")
    @Broken(in = "public int evens()", was = "n % 2 == 0", is = "n % 2 == 0 || n == 1")
    @Broken(in = "public int evens()", was = "n % 2 == 0", is = "n % 2 == 0 || n == 7")
    @Broken(in = "public int evens()", was = "no()", is = "bad()")
    @Broken(in = "public int evens()", was = "no()", is = "NO")
    static void evensNo() {
        for (int n = 1; n <= 7; n += 2) {
            Edges.refused(n + " points: evens()", n, -3, x -> x.evens());
        }
    }
}
