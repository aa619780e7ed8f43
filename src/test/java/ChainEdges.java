/** The boundary cases of promises 14 to 19, about covers, chains and intervals. */
final class ChainEdges {
    private static final int[] LONG_CHAINS = {1, 1, 3, 16, 125, 1296, 16807, 262144};
    private static final int[] MOEBIUS = {1, -1, 2, -5, 14, -42, 132, -429};
    private static final int[] PARTITIONS = {1, 2, 5, 14, 42, 132, 429, 1430};

    private ChainEdges() {
    }

    /** Eight points, with {0, 7}, {1, 6}, {0, 1, 6, 7} and {0, 7, 3} in the slots 1 to 4; the coarsest one in slot 5. */
    private static UncrossedParts eight() {
        UncrossedParts x = Edges.at(8);
        x.puts(1, 0, 7);
        x.puts(2, 1, 6);
        x.joins(3, 1, 2);
        x.puts(3, 0, 1);
        x.joins(4, 0, 1);
        x.puts(4, 0, 3);
        x.takes(5, 0);
        return x;
    }

    @Sentence(promise = 14, words = "s: the slot")
    @Broken(in = "public int covers(", was = "!isSlot(s)", is = "s < 1 || s >= SLOTS")
    @Broken(in = "public int covers(", was = "!isSlot(s)", is = "s < 0 || s >= SLOTS - 1")
    @Broken(in = "public int covers(", was = "!isSlot(s)", is = "s < 0 || s > SLOTS")
    @Broken(in = "public int covers(", was = "board.part(s)", is = "board.part(s < 5 ? s : 0)")
    static void coversSlot() {
        Edges.slots("covers", (x, s) -> x.covers(s, 0));
        UncrossedParts x = Edges.at(2);
        x.takes(5, 0);
        Check.due("covers(0, 0)", x.covers(0, 0), 0);
        Check.due("covers(5, 0)", x.covers(5, 0), -1);
    }

    @Sentence(promise = 14, words = "i: the index, counted from 0")
    @Broken(in = "public int covers(", was = "i < 0", is = "i < 1")
    @Broken(in = "int coverOf(", was = "int seen = 0", is = "int seen = 1")
    @Broken(in = "int coverOf(", was = "int seen = 0", is = "int seen = -1")
    static void coversIndex() {
        UncrossedParts x = Edges.at(2);
        Check.due("two points: covers(0, 0)", x.covers(0, 0), 0);
        Check.due("two points: covers(0, 1)", x.covers(0, 1), -1);
        x = Edges.at(3);
        int[] all = {1, 2, 3, -1};
        for (int i = 0; i < all.length; i++) {
            Check.due("three points: covers(0, " + i + ")", x.covers(0, i), all[i]);
        }
        Check.due("three points: told(0)", x.told(0), 0);
    }

    @Sentence(promise = 14, words = "Returns a partition that covers the partition of a slot, in increasing order of their"
        + " numbers.")
    @Broken(in = "int coverOf(", was = "int y = 1", is = "int y = 2")
    @Broken(in = "int coverOf(", was = "y < a.points", is = "y < a.points - 1")
    @Broken(in = "int coverOf(", was = "int x = 0", is = "int x = 1")
    @Broken(in = "int coverOf(", was = "seen == i", is = "seen == coversOf(a) - 1 - i")
    @Broken(in = "int coverOf(", was = " && unites(a, x, y)", is = " && unites(a, x, y) | true")
    static void coversInOrder() {
        UncrossedParts x = eight();
        int[] counts = {28, 21, 13, 10, 9, 0};
        for (int s = 0; s < 6; s++) {
            int last = -1;
            Check.due("of(" + s + ", 4)", x.of(s, 4), counts[s]);
            for (int i = 0; i < counts[s]; i++) {
                int place = x.covers(s, i);
                Check.holds("covers(" + s + ", " + i + ") = " + place + " is greater than " + last, place > last);
                last = place;
            }
            Check.due("covers(" + s + ", " + counts[s] + ")", x.covers(s, counts[s]), -1);
        }
        UncrossedParts y = Edges.at(8);
        y.takes(1, x.covers(0, 0));
        Edges.rows("covers(0, 0)", y, 1, "00234567");
        y.takes(1, x.covers(0, 27));
        Edges.rows("covers(0, 27)", y, 1, "01234566");
        y.takes(1, x.covers(4, 8));
        Edges.rows("covers(4, 8)", y, 1, "01204550");
    }

    @Sentence(promise = 14, words = "Returns the number of the partition")
    @Broken(in = "int coverOf(", was = "return placeOf(cover)", is = "return placeOf(a)")
    @Broken(in = "int coverOf(", was = "return placeOf(cover)",
        is = "return placeOf(cover) > 0 ? placeOf(cover) : NONE")
    static void coversReturns() {
        for (int n = 2; n <= 8; n++) {
            UncrossedParts x = Edges.at(n);
            Check.due(n + " points: the last one", x.covers(0, n * (n - 1) / 2 - 1), PARTITIONS[n - 1] - 2);
            x.takes(1, x.covers(0, 0));
            Edges.rows(n + " points: the first one", x, 1, "00234567".substring(0, n));
            x.takes(2, 1);
            Check.due(n + " points: the coarsest one", x.covers(2, 0), 0);
        }
    }

    @Sentence(promise = 14, words = "NONE if there are not so many")
    @Broken(in = "int coverOf(", was = "return NONE", is = "return NO")
    @Broken(in = "public int covers(", was = "return board", is = "return i > 28 ? bad() : board")
    @Broken(in = "int coverOf(", was = "seen == i", is = "seen == i % 1000")
    static void coversNone() {
        int[] counts = {0, 1, 3, 6, 10, 15, 21, 28};
        for (int n = 1; n <= 8; n++) {
            UncrossedParts x = Edges.at(n);
            x.takes(5, 0);
            if (n > 1) {
                Check.holds(n + " points: the last one", x.covers(0, counts[n - 1] - 1) >= 0);
            }
            Check.due(n + " points: one more", x.covers(0, counts[n - 1]), -1);
            Check.due(n + " points: 1000", x.covers(0, 1000), -1);
            Check.due(n + " points: the greatest int", x.covers(0, Edges.GREATEST), -1);
            Check.due(n + " points: the coarsest one", x.covers(5, 0), -1);
            for (int what = 0; what < 3; what++) {
                Check.due(n + " points: told(" + what + ")", x.told(what), 0);
            }
        }
    }

    @Sentence(promise = 14, words = "BAD if there is no such slot or i is negative")
    @Broken(in = "public int covers(", was = "return bad()", is = "return no()")
    @Broken(in = "public int covers(", was = "return bad()", is = "return BAD")
    @Broken(in = "public int covers(", was = "!isSlot(s)", is = "!isSlot(s) && s < 2147483647")
    @Broken(in = "public int covers(", was = "i < 0", is = "i == -1")
    @Broken(in = "public int covers(", was = "i < 0", is = "i < -1")
    static void coversBad() {
        Edges.bad("covers", 8, 0, 5, (x, s) -> x.covers(s, 0));
        Edges.bad("covers of a large index", 8, 0, 5, (x, s) -> x.covers(s, Edges.GREATEST));
        int[] all = {-1, Edges.LOWEST};
        for (int i : all) {
            Edges.refused("covers(0, " + i + ")", 8, -2, x -> x.covers(0, i));
            Edges.refused("covers(5, " + i + ")", 1, -2, x -> x.covers(5, i));
            Edges.refused("covers(6, " + i + ")", 8, -2, x -> x.covers(6, i));
        }
    }

    @Sentence(promise = 15, words = "a: the slot of the lower partition")
    @Broken(in = "public int mark(", was = "!isSlot(a)", is = "a < 1 || a >= SLOTS")
    @Broken(in = "public int mark(", was = "!isSlot(a)", is = "a < 0 || a >= SLOTS - 1")
    @Broken(in = "public int mark(", was = "!isSlot(a)", is = "a < 0 || a > SLOTS")
    @Broken(in = "public int mark(", was = "board.part(a)", is = "board.part(a < 5 ? a : 0)")
    static void markLower() {
        Edges.slots("mark", (x, a) -> x.mark(a, 5));
        UncrossedParts x = Edges.at(8);
        x.puts(1, 6, 7);
        x.puts(5, 6, 7);
        x.puts(2, 6, 7);
        x.puts(2, 3, 4);
        Check.due("mark(0, 1)", x.mark(0, 1), 6);
        Check.due("mark(5, 2)", x.mark(5, 2), 3);
    }

    @Sentence(promise = 15, words = "b: the slot of the partition that covers it")
    @Broken(in = "public int mark(", was = "!isSlot(b)", is = "b < 1 || b >= SLOTS")
    @Broken(in = "public int mark(", was = "!isSlot(b)", is = "b < 0 || b >= SLOTS - 1")
    @Broken(in = "public int mark(", was = "!isSlot(b)", is = "b < 0 || b > SLOTS")
    @Broken(in = "public int mark(", was = "board.part(b)", is = "board.part(b < 5 ? b : 0)")
    static void markUpper() {
        Edges.slots("mark", (x, b) -> x.mark(0, b));
        UncrossedParts x = Edges.at(8);
        x.puts(5, 6, 7);
        x.puts(0, 3, 4);
        Check.due("mark(1, 5)", x.mark(1, 5), 6);
        Check.due("mark(1, 0)", x.mark(1, 0), 3);
    }

    @Sentence(promise = 15, words = "Returns the label")
    @Broken(in = "public int mark(", was = "return lower.labelTo(upper)", is = "return lower.labelTo(upper) % 6")
    @Broken(in = "int labelTo(", was = "label = x", is = "label = first")
    @Broken(in = "int labelTo(", was = "x < second", is = "x < second - 1")
    static void markReturns() {
        // The label is N - 2 if the last two points are united, and 0 if the first block begins and ends with 0.
        for (int n = 2; n <= 8; n++) {
            UncrossedParts x = Edges.at(n);
            x.puts(1, n - 2, n - 1);
            x.puts(2, 0, n - 1);
            x.puts(3, 0, 1);
            Check.due(n + " points: the last two", x.mark(0, 1), n - 2);
            Check.due(n + " points: the first and the last one", x.mark(0, 2), 0);
            Check.due(n + " points: the first two", x.mark(0, 3), 0);
            x.takes(4, 0);
            x.takes(5, 1);
            Check.due(n + " points: all but the last one, and the last one", x.mark(5, 4), n - 2);
            Check.due(n + " points: told(1)", x.told(1), 0);
        }
    }

    @Sentence(promise = 15, words = "BAD if there is no such slot")
    @Broken(in = "public int mark(", was = "return bad()", is = "return no()")
    @Broken(in = "public int mark(", was = "return bad()", is = "return BAD")
    @Broken(in = "public int mark(", was = "!isSlot(a)", is = "!isSlot(a) && a < 2147483647")
    @Broken(in = "public int mark(", was = "!isSlot(b)", is = "!isSlot(b) && b < 2147483647")
    static void markBad() {
        Edges.bad("mark", 8, 0, 5, (x, a) -> x.mark(a, 1));
        Edges.bad("mark", 8, 0, 5, (x, b) -> x.mark(0, b));
        Edges.refused("mark(6, 6)", 8, -2, x -> x.mark(6, 6));
    }

    @Sentence(promise = 15, words = "NO if that of b does not cover that of a")
    @Broken(in = "public int mark(", was = "return no()", is = "return bad()")
    @Broken(in = "public int mark(", was = "return no()", is = "return NO")
    @Broken(in = "public int mark(", was = "!lower.isUnder(upper) || ", is = "")
    @Broken(in = "public int mark(", was = "upper.rank() != lower.rank() + 1", is = "upper.rank() == lower.rank()")
    @Broken(in = "public int mark(", was = "upper.rank() != lower.rank() + 1", is = "upper.rank() > lower.rank() + 1")
    static void markNo() {
        Edges.refused("one point: mark(0, 5)", 1, -3, x -> x.mark(0, 5));
        Edges.refused("the same slot: mark(5, 5)", 8, -3, x -> x.mark(5, 5));
        Edges.refused("the other way round: mark(1, 0)", 8, -3, x -> x.mark(1, 0));
        Edges.refused("seven steps: mark(0, 5)", 8, -3, x -> x.mark(0, 5));
        Edges.refused("the coarsest one in the lower slot: mark(5, 0)", 8, -3, x -> x.mark(5, 0));
        UncrossedParts x = eight();
        Check.due("equal partitions in two slots", x.joins(0, 1, 1), 1);
        Check.due("equal partitions in two slots", x.mark(0, 1), -3);
        Check.due("rank 1 and rank 2, but not below", x.mark(2, 4), -3);
        Check.due("two steps", x.mark(1, 3), -3);
        Check.due("one step", x.mark(1, 4), 0);
        Check.due("told(1)", x.told(1), 3);
        Check.due("told(0)", x.told(0), 0);
    }

    @Sentence(promise = 16, words = "a: the slot of the first partition")
    @Broken(in = "public int chains(", was = "intervalError(a, b)", is = "a < 1 ? bad() : intervalError(a, b)")
    @Broken(in = "public int chains(", was = "intervalError(a, b)", is = "a > 4 ? bad() : intervalError(a, b)")
    @Broken(in = "int intervalError(", was = "!isSlot(a)", is = "a < 0 || a > SLOTS")
    @Broken(in = "int intervalError(", was = "!isSlot(a)", is = "a < -1 || a >= SLOTS")
    static void chainsFirst() {
        Edges.slots("chains", (x, a) -> x.chains(a, 5));
    }

    @Sentence(promise = 16, words = "b: the slot of the last partition")
    @Broken(in = "public int chains(", was = "intervalError(a, b)", is = "b < 1 ? bad() : intervalError(a, b)")
    @Broken(in = "public int chains(", was = "intervalError(a, b)", is = "b > 4 ? bad() : intervalError(a, b)")
    @Broken(in = "int intervalError(", was = "!isSlot(b)", is = "b < 0 || b > SLOTS")
    @Broken(in = "int intervalError(", was = "!isSlot(b)", is = "b < -1 || b >= SLOTS")
    static void chainsLast() {
        Edges.slots("chains", (x, b) -> x.chains(0, b));
    }

    @Sentence(promise = 16, words = "Returns the number of chains (1 if both partitions are equal)")
    @Broken(in = "public int chains(", was = "error == 0 ?", is = "error == 0 && a == b ? 0 : error == 0 ?")
    @Broken(in = "int chainsOfProduct(", was = "int chains = 1", is = "int chains = rank() < points - 1 ? 1 : 0")
    @Broken(in = "LONG_CHAINS = {", was = "262144", is = "262143")
    @Broken(in = "LONG_CHAINS = {", was = "{1, 1, 1", is = "{1, 0, 1")
    static void chainsReturns() {
        for (int n = 1; n <= 8; n++) {
            UncrossedParts x = Edges.at(n);
            x.takes(5, 0);
            Check.due(n + " points: chains(0, 5)", x.chains(0, 5), LONG_CHAINS[n - 1]);
            Check.due(n + " points: chains(0, 0)", x.chains(0, 0), 1);
            Check.due(n + " points: chains(0, 1)", x.chains(0, 1), 1);
            Check.due(n + " points: chains(5, 5)", x.chains(5, 5), 1);
            x.takes(4, 0);
            Check.due(n + " points: chains(4, 5)", x.chains(4, 5), 1);
        }
        UncrossedParts x = eight();
        Check.due("one step: chains(1, 4)", x.chains(1, 4), 1);
        Check.due("two steps: chains(1, 3)", x.chains(1, 3), 3);
    }

    @Sentence(promise = 16, words = "BAD if there is no such slot")
    @Broken(in = "public int chains(", was = "intervalError(a, b)",
        is = "isSlot(a) || isSlot(b) ? intervalError(a, b) : no()")
    @Broken(in = "public int chains(", was = "intervalError(a, b)", is = "a > 5 ? BAD : intervalError(a, b)")
    @Broken(in = "int intervalError(", was = "return bad()", is = "return no()")
    @Broken(in = "int intervalError(", was = "!isSlot(b)", is = "!isSlot(b) && b < 2147483647")
    static void chainsBad() {
        Edges.bad("chains", 8, 0, 5, (x, a) -> x.chains(a, 5));
        Edges.bad("chains", 8, 0, 5, (x, b) -> x.chains(0, b));
        Edges.bad("chains", 1, 0, 5, (x, b) -> x.chains(0, b));
        Edges.refused("chains(6, -1)", 8, -2, x -> x.chains(6, -1));
    }

    @Sentence(promise = 16, words = "NO if that of a is not below that of b")
    @Broken(in = "public int chains(", was = "intervalError(a, b)",
        is = "isSlot(a) && isSlot(b) && !board.part(a).isUnder(board.part(b)) ? 0 : intervalError(a, b)")
    @Broken(in = "public int chains(", was = "error == 0 ?", is = "error == NO ? 0 : error == 0 ?")
    @Broken(in = "int intervalError(", was = "0 : no()", is = "0 : NO")
    @Broken(in = "int intervalError(", was = "0 : no()", is = "0 : bad()")
    static void chainsNo() {
        Edges.refused("the other way round: chains(5, 0)", 8, -3, x -> x.chains(5, 0));
        Edges.refused("one step back: chains(1, 0)", 8, -3, x -> x.chains(1, 0));
        Edges.refused("two points: chains(5, 0)", 2, -3, x -> x.chains(5, 0));
        UncrossedParts x = eight();
        Check.due("the same rank: chains(1, 2)", x.chains(1, 2), -3);
        Check.due("a higher rank, but not below: chains(2, 4)", x.chains(2, 4), -3);
        Check.due("told(1)", x.told(1), 2);
        Check.due("one point: chains(5, 0)", Edges.full(1).chains(5, 0), 1);
    }

    @Sentence(promise = 17, words = "v: the N - 1 labels as the decimal digits of a number with leading zeros, the first"
        + " label in the highest digit; 0 if N is 1")
    @Broken(in = "boolean isLabels(", was = "i < board.now.points", is = "i < board.now.points - 1")
    @Broken(in = "boolean isLabels(", was = "i < board.now.points", is = "i <= board.now.points")
    @Broken(in = "int MOST_LABEL", was = "7", is = "6")
    @Broken(in = "int MOST_LABEL", was = "7", is = "8")
    static void markedLabels() {
        int most = 0;
        for (int n = 1; n <= 8; n++) {
            Edges.range("marked", n, 0, most, (x, v) -> x.marked(v));
            most = 10 * most + 7;
        }
    }

    @Sentence(promise = 17, words = "Returns the number of chains")
    @Broken(in = "public int marked(", was = "? 1 : 0", is = "&& v > 0 ? 1 : 0")
    @Broken(in = "boolean isParking(", was = "k < now.points", is = "k < now.points - 1")
    @Broken(in = "boolean isParking(", was = "int k = 1", is = "int k = 2")
    @Broken(in = "boolean isParking(", was = "return true", is = "return now.points > 1")
    static void markedReturns() {
        Check.due("one point: marked(0)", Edges.at(1).marked(0), 1);
        UncrossedParts x = Edges.at(2);
        for (int v = 0; v < 8; v++) {
            Check.due("two points: marked(" + v + ")", x.marked(v), v == 0 ? 1 : 0);
        }
        x = Edges.at(3);
        for (int v = 0; v < 8; v++) {
            Check.due("three points: marked(0" + v + ")", x.marked(v), v <= 1 ? 1 : 0);
            Check.due("three points: marked(1" + v + ")", x.marked(10 + v), v == 0 ? 1 : 0);
            Check.due("three points: marked(7" + v + ")", x.marked(70 + v), 0);
        }
        x = Edges.at(8);
        int[] found = {0, 6, 123456, 6543210, 6000000, 1234560, 3333};
        int[] none = {7, 66, 7777777, 7000000, 1111111, 6543211, 4444, 1234561};
        for (int v : found) {
            Check.due("eight points: marked(" + v + ")", x.marked(v), 1);
        }
        for (int v : none) {
            Check.due("eight points: marked(" + v + ")", x.marked(v), 0);
        }
        Check.due("told(0)", x.told(0), 0);
    }

    @Sentence(promise = 17, words = "BAD if v is negative, has more than N - 1 digits (is above 0 if N is 1), or has a"
        + " digit above 7")
    @Broken(in = "public int marked(", was = "return bad()", is = "return no()")
    @Broken(in = "public int marked(", was = "return bad()", is = "return BAD")
    @Broken(in = "boolean isLabels(", was = "v < 0", is = "v == -1")
    @Broken(in = "boolean isLabels(", was = "return rest == 0", is = "return rest == 0 || board.now.points == 1")
    @Broken(in = "boolean isLabels(", was = "return rest == 0", is = "return rest <= 1")
    @Broken(in = "boolean isLabels(", was = "rest % 10 > MOST_LABEL", is = "rest % 10 == 8")
    @Broken(in = "boolean isLabels(", was = "rest % 10 > MOST_LABEL", is = "rest % 10 > MOST_LABEL && rest > 9")
    @Broken(in = "boolean isLabels(", was = "rest % 10 > MOST_LABEL", is = "v % 10 > MOST_LABEL")
    static void markedBad() {
        int[][] all = {{1, 1}, {1, 7}, {1, 10}, {2, 8}, {2, 9}, {2, 10}, {2, 70}, {3, 8}, {3, 9}, {3, 78}, {3, 80},
            {3, 90}, {3, 100}, {8, 8}, {8, 9}, {8, 80}, {8, 7777778}, {8, 7777787}, {8, 8000000}, {8, 9000000},
            {8, 9999999}, {8, 10000000}, {8, 77777777}, {8, 1000000000}};
        for (int[] w : all) {
            Edges.refused(w[0] + " points: marked(" + w[1] + ")", w[0], -2, x -> x.marked(w[1]));
        }
        int[] never = {-1, -2, -7, -10, -1000000, Edges.LOWEST, Edges.GREATEST};
        for (int n = 1; n <= 8; n++) {
            for (int v : never) {
                Edges.refused(n + " points: marked(" + v + ")", n, -2, x -> x.marked(v));
            }
        }
    }

    @Sentence(promise = 18, words = "a: the slot of the lower partition")
    @Broken(in = "public int signed(", was = "intervalError(a, b)", is = "a < 1 ? bad() : intervalError(a, b)")
    @Broken(in = "public int signed(", was = "intervalError(a, b)", is = "a > 4 ? bad() : intervalError(a, b)")
    @Broken(in = "int intervalError(", was = "!isSlot(a)", is = "a < 0 || a > SLOTS")
    static void signedLower() {
        Edges.slots("signed", (x, a) -> x.signed(a, 5));
    }

    @Sentence(promise = 18, words = "b: the slot of the higher partition")
    @Broken(in = "public int signed(", was = "intervalError(a, b)", is = "b < 1 ? bad() : intervalError(a, b)")
    @Broken(in = "public int signed(", was = "intervalError(a, b)", is = "b > 4 ? bad() : intervalError(a, b)")
    @Broken(in = "int intervalError(", was = "!isSlot(b)", is = "b < 0 || b > SLOTS")
    static void signedHigher() {
        Edges.slots("signed", (x, b) -> x.signed(0, b));
    }

    @Sentence(promise = 18, words = "Returns the Möbius value")
    @Broken(in = "int moebiusOfProduct(", was = "size % 2 == 1", is = "true")
    @Broken(in = "int moebiusOfProduct(", was = "CATALAN[size - 1]", is = "CATALAN[size]")
    @Broken(in = "public int signed(", was = "return error == 0 ?", is = "return a == b ? 0 : error == 0 ?")
    @Broken(in = "public int signed(", was = "board.interval(a, b).moebiusOfProduct()",
        is = "(board.interval(a, b).moebiusOfProduct() == BAD ? bad() : board.interval(a, b).moebiusOfProduct())")
    static void signedReturns() {
        for (int n = 1; n <= 8; n++) {
            UncrossedParts x = Edges.at(n);
            x.takes(5, 0);
            Check.due(n + " points: signed(0, 5)", x.signed(0, 5), MOEBIUS[n - 1]);
            Check.due(n + " points: signed(0, 0)", x.signed(0, 0), 1);
            Check.due(n + " points: signed(5, 5)", x.signed(5, 5), 1);
        }
        UncrossedParts x = eight();
        Check.due("one step: signed(1, 4)", x.signed(1, 4), -1);
        Check.due("two steps: signed(1, 3)", x.signed(1, 3), 2);
        // Values that look like error codes are none, and are not counted: three points and two, and twice three and two.
        x.points(8);
        x.puts(1, 0, 1);
        x.puts(1, 1, 2);
        x.puts(1, 3, 4);
        Check.due("a value of -2", x.signed(0, 1), -2);
        x.puts(1, 4, 5);
        x.puts(1, 6, 7);
        Check.due("a value of -4", x.signed(0, 1), -4);
        for (int what = 0; what < 3; what++) {
            Check.due("told(" + what + ")", x.told(what), 0);
        }
    }

    @Sentence(promise = 18, words = "BAD if there is no such slot")
    @Broken(in = "public int signed(", was = "intervalError(a, b)",
        is = "isSlot(a) || isSlot(b) ? intervalError(a, b) : no()")
    @Broken(in = "public int signed(", was = "intervalError(a, b)", is = "b > 5 ? BAD : intervalError(a, b)")
    @Broken(in = "int intervalError(", was = "!isSlot(a)", is = "!isSlot(a) && a < 2147483647")
    static void signedBad() {
        Edges.bad("signed", 8, 0, 5, (x, a) -> x.signed(a, 5));
        Edges.bad("signed", 8, 0, 5, (x, b) -> x.signed(0, b));
        Edges.bad("signed", 1, 0, 5, (x, b) -> x.signed(0, b));
        Edges.refused("signed(6, -1)", 8, -2, x -> x.signed(6, -1));
    }

    @Sentence(promise = 18, words = "NO if that of a is not below that of b")
    @Broken(in = "public int signed(", was = "error == 0 ?", is = "error == NO ? 0 : error == 0 ?")
    @Broken(in = "int intervalError(", was = "0 : no()", is = "0 : NO")
    @Broken(in = "int intervalError(", was = "0 : no()", is = "0 : bad()")
    static void signedNo() {
        Edges.refused("the other way round: signed(5, 0)", 8, -3, x -> x.signed(5, 0));
        Edges.refused("one step back: signed(1, 0)", 8, -3, x -> x.signed(1, 0));
        Edges.refused("two points: signed(5, 0)", 2, -3, x -> x.signed(5, 0));
        UncrossedParts x = eight();
        Check.due("the same rank: signed(1, 2)", x.signed(1, 2), -3);
        Check.due("a higher rank, but not below: signed(2, 4)", x.signed(2, 4), -3);
        Check.due("told(1)", x.told(1), 2);
        Check.due("one point: signed(5, 0)", Edges.full(1).signed(5, 0), 1);
    }

    @Sentence(promise = 19, words = "a: the slot of the lower partition")
    @Broken(in = "public int between(", was = "intervalError(a, b)", is = "a < 1 ? bad() : intervalError(a, b)")
    @Broken(in = "public int between(", was = "intervalError(a, b)", is = "a > 4 ? bad() : intervalError(a, b)")
    @Broken(in = "int intervalError(", was = "!isSlot(a)", is = "a < 0 || a > SLOTS")
    static void betweenLower() {
        Edges.slots("between", (x, a) -> x.between(a, 5));
    }

    @Sentence(promise = 19, words = "b: the slot of the higher partition")
    @Broken(in = "public int between(", was = "intervalError(a, b)", is = "b < 1 ? bad() : intervalError(a, b)")
    @Broken(in = "public int between(", was = "intervalError(a, b)", is = "b > 4 ? bad() : intervalError(a, b)")
    @Broken(in = "int intervalError(", was = "!isSlot(b)", is = "b < 0 || b > SLOTS")
    static void betweenHigher() {
        Edges.slots("between", (x, b) -> x.between(0, b));
    }

    @Sentence(promise = 19, words = "(both included)")
    @Broken(in = "public int between(", was = "sizeOfProduct()", is = "sizeOfProduct() - 1")
    @Broken(in = "public int between(", was = "sizeOfProduct()", is = "sizeOfProduct() - (a == b ? 1 : 0)")
    @Broken(in = "public int between(", was = "sizeOfProduct()", is = "sizeOfProduct() - (a == b ? 0 : 2)")
    static void betweenBoth() {
        UncrossedParts x = eight();
        Check.due("equal: between(5, 5)", x.between(5, 5), 1);
        Check.due("equal: between(0, 0)", x.between(0, 0), 1);
        Check.due("one step: between(1, 4)", x.between(1, 4), 2);
        x.takes(4, 0);
        Check.due("equal in two slots: between(4, 5)", x.between(4, 5), 1);
    }

    @Sentence(promise = 19, words = "Returns the number of partitions")
    @Broken(in = "int sizeOfProduct(", was = "CATALAN[sizeFrom(x)]",
        is = "sizeFrom(x) == 0 ? 1 : CATALAN[sizeFrom(x) - 1]")
    @Broken(in = "int sizeOfProduct(", was = "int x = 0", is = "int x = 1")
    @Broken(in = "int sizeOfProduct(", was = "return product", is = "return product % 1430")
    @Broken(in = "CATALAN = {", was = "{1, 1,", is = "{1, 0,")
    static void betweenReturns() {
        for (int n = 1; n <= 8; n++) {
            UncrossedParts x = Edges.at(n);
            x.takes(5, 0);
            Check.due(n + " points: between(0, 5)", x.between(0, 5), PARTITIONS[n - 1]);
            Check.due(n + " points: between(0, 0)", x.between(0, 0), 1);
            Check.due(n + " points: between(5, 5)", x.between(5, 5), 1);
        }
        UncrossedParts x = eight();
        Check.due("two steps: between(1, 3)", x.between(1, 3), 5);
    }

    @Sentence(promise = 19, words = "BAD if there is no such slot")
    @Broken(in = "public int between(", was = "intervalError(a, b)",
        is = "isSlot(a) || isSlot(b) ? intervalError(a, b) : no()")
    @Broken(in = "public int between(", was = "intervalError(a, b)", is = "b > 5 ? BAD : intervalError(a, b)")
    @Broken(in = "int intervalError(", was = "!isSlot(a)", is = "!isSlot(a) && a < 2147483647")
    static void betweenBad() {
        Edges.bad("between", 8, 0, 5, (x, a) -> x.between(a, 5));
        Edges.bad("between", 8, 0, 5, (x, b) -> x.between(0, b));
        Edges.bad("between", 1, 0, 5, (x, b) -> x.between(0, b));
        Edges.refused("between(6, -1)", 8, -2, x -> x.between(6, -1));
    }

    @Sentence(promise = 19, words = "NO if that of a is not below that of b")
    @Broken(in = "public int between(", was = "error == 0 ?", is = "error == NO ? 0 : error == 0 ?")
    @Broken(in = "int intervalError(", was = "0 : no()", is = "0 : NO")
    @Broken(in = "int intervalError(", was = "0 : no()", is = "0 : bad()")
    static void betweenNo() {
        Edges.refused("the other way round: between(5, 0)", 8, -3, x -> x.between(5, 0));
        Edges.refused("one step back: between(1, 0)", 8, -3, x -> x.between(1, 0));
        Edges.refused("two points: between(5, 0)", 2, -3, x -> x.between(5, 0));
        UncrossedParts x = eight();
        Check.due("the same rank: between(1, 2)", x.between(1, 2), -3);
        Check.due("a higher rank, but not below: between(2, 4)", x.between(2, 4), -3);
        Check.due("told(1)", x.told(1), 2);
        Check.due("one point: between(5, 0)", Edges.full(1).between(5, 0), 1);
    }
}
