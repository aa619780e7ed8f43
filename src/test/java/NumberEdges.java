/** The boundary cases of promises 20 and 21, and of what is said of the numbers. */
final class NumberEdges {
    private NumberEdges() {
    }

    /** An object whose numbers are all v. */
    private static UncrossedParts all(int v) {
        UncrossedParts x = new UncrossedParts();
        for (int n = 1; n <= 8; n++) {
            x.number(n, v);
        }
        return x;
    }

    private static void row(String call, UncrossedParts x, int j, int k, long... due) {
        for (int n = 1; n <= 8; n++) {
            Check.due(call + ": as(" + j + ", " + k + ", " + n + ")", x.as(j, k, n), due[n - 1]);
        }
    }

    @Sentence(words = "There are eight numbers x(1) to x(8), from -9 to 9, at first 0.")
    @Broken(in = "int changeNumber(", was = "n > NUMBERS", is = "n >= NUMBERS")
    @Broken(in = "int changeNumber(", was = "n < 1", is = "n < 2")
    @Broken(in = "int changeNumber(", was = "v < -MOST_VALUE", is = "v <= -MOST_VALUE")
    @Broken(in = "int changeNumber(", was = "v > MOST_VALUE", is = "v >= MOST_VALUE")
    @Broken(in = "int changeNumber(", was = "v > MOST_VALUE", is = "v > MOST_VALUE + 1")
    @Broken(in = "int changeNumber(", was = "v < -MOST_VALUE", is = "v < -MOST_VALUE - 1")
    @Broken(in = "numbers = new int[NUMBERS];", was = ";", is = "; numbers[7] = 1;")
    static void eightNumbers() {
        UncrossedParts x = new UncrossedParts();
        row("new", x, 0, 0, 0, 0, 0, 0, 0, 0, 0, 0);
        for (int n = 1; n <= 8; n++) {
            Check.due("number(" + n + ", -9)", x.number(n, -9), 100);
            Check.due("number(" + n + ", 9)", x.number(n, 9), 91);
            Check.due("number(" + n + ", 10)", x.number(n, 10), -2);
            Check.due("number(" + n + ", -10)", x.number(n, -10), -2);
            Check.due("x(" + n + ")", x.as(0, 0, n), 9);
        }
        Check.due("number(0, 0)", x.number(0, 0), -2);
        Check.due("number(9, 0)", x.number(9, 0), -2);
    }

    @Sentence(words = "These are related as follows, for all n: m(n) is the sum, over all noncrossing partitions of n"
        + " points, of the product of f(size) over all blocks")
    @Broken(in = "void raise(", was = "s + r <= NUMBERS", is = "s + r < NUMBERS")
    @Broken(in = "long remainder(", was = "int size = 1", is = "int size = 2")
    @Broken(in = "long remainder(", was = "size < n", is = "size < n - 1")
    @Broken(in = "void convert(", was = "n <= NUMBERS", is = "n < NUMBERS")
    static void freeCumulants() {
        row("all 1", all(1), 1, 0, 1, 2, 5, 14, 42, 132, 429, 1430);
        row("all -1", all(-1), 1, 0, -1, 0, 1, 0, -2, 0, 5, 0);
        UncrossedParts x = new UncrossedParts();
        x.number(1, -9);
        row("the first one alone", x, 1, 0, -9, 81, -729, 6561, -59049, 531441, -4782969, 43046721);
        x = new UncrossedParts();
        x.number(8, 9);
        row("the last one alone", x, 1, 0, 0, 0, 0, 0, 0, 0, 0, 9);
        row("the last one alone", x, 0, 1, 0, 0, 0, 0, 0, 0, 0, 9);
        // A moment of one point is its cumulant; the greatest value is the sum for all partitions of eight points.
        Check.due("all 9: as(1, 0, 1)", all(9).as(1, 0, 1), 9);
        Check.due("all 9: as(1, 0, 2)", all(9).as(1, 0, 2), 90);
        Check.due("all 9: as(1, 0, 8)", all(9).as(1, 0, 8), narayana(9));
        Check.due("all -9: as(1, 0, 8)", all(-9).as(1, 0, 8), narayana(-9));
        // N does not matter: the sums are over partitions of n points.
        UncrossedParts y = all(1);
        y.points(1);
        Check.due("N = 1: as(1, 0, 8)", y.as(1, 0, 8), 1430);
        y.points(8);
        Check.due("N = 8: as(1, 0, 8)", y.as(1, 0, 8), 1430);
    }

    /** The sum of v to the power of the number of blocks, over all noncrossing partitions of eight points. */
    private static long narayana(long v) {
        long[] blocks = {1, 28, 196, 490, 490, 196, 28, 1};
        long sum = 0;
        long power = 1;
        for (long count : blocks) {
            power *= v;
            sum += count * power;
        }
        return sum;
    }

    @Sentence(words = "and m(n) is also the sum, over all partitions of n points, crossing or not, of the product of"
        + " u(size) over all blocks.")
    @Broken(in = "long remainder(", was = ": besides(n, size)", is = ": powers[size][n - size]")
    @Broken(in = "long besides(", was = "choose(n - 1, size - 1)", is = "choose(n - 1, n < 8 ? size - 1 : 0)")
    @Broken(in = "long remainder(", was = "size < n", is = "size < n - 1")
    static void classicalCumulants() {
        row("all 1", all(1), 2, 0, 1, 2, 5, 15, 52, 203, 877, 4140);
        UncrossedParts x = new UncrossedParts();
        x.number(8, -9);
        row("the last one alone", x, 2, 0, 0, 0, 0, 0, 0, 0, 0, -9);
        row("the last one alone", x, 0, 2, 0, 0, 0, 0, 0, 0, 0, -9);
        x = new UncrossedParts();
        x.number(1, 9);
        row("the first one alone", x, 2, 0, 9, 81, 729, 6561, 59049, 531441, 4782969, 43046721);
        // Three points cannot cross, four points can in one way.
        UncrossedParts y = all(9);
        Check.due("three points", y.as(2, 0, 3) - y.as(1, 0, 3), 0);
        Check.due("four points", y.as(2, 0, 4) - y.as(1, 0, 4), 81);
        Check.due("all 9: as(2, 0, 8)", y.as(2, 0, 8), stirling(9));
        Check.due("all -9: as(2, 0, 8)", all(-9).as(2, 0, 8), stirling(-9));
        y.points(1);
        Check.due("N = 1: as(2, 0, 8)", y.as(2, 0, 8), stirling(9));
    }

    /** The sum of v to the power of the number of blocks, over all partitions of eight points. */
    private static long stirling(long v) {
        long[] blocks = {1, 127, 966, 1701, 1050, 266, 28, 1};
        long sum = 0;
        long power = 1;
        for (long count : blocks) {
            power *= v;
            sum += count * power;
        }
        return sum;
    }

    @Sentence(promise = 20, words = "Can be undone.")
    @Broken(in = "public int number(", was = "past.prepare(board.now);", is = "")
    @Broken(in = "public int number(", was = "settled(board.changeNumber(n, v))", is = "board.changeNumber(n, v)")
    @Broken(in = "void copy(State other)", was = "int i = 0", is = "int i = 1")
    @Broken(in = "void copy(State other)", was = "i < NUMBERS", is = "i < NUMBERS - 1")
    static void numberUndone() {
        Edges.undone("number(1, -9)", x -> x.number(1, -9));
        Edges.undone("number(8, 9)", x -> x.number(8, 9));
        Edges.undoneIdle("number(1, 0)", 4, x -> x.number(1, 0));
    }

    @Sentence(promise = 20, words = "n: the index of the number, 1 to 8")
    @Broken(in = "int changeNumber(", was = "n > NUMBERS", is = "n >= NUMBERS")
    @Broken(in = "int changeNumber(", was = "n < 1", is = "n < 2")
    @Broken(in = "int changeNumber(", was = "n > NUMBERS", is = "n > NUMBERS + 1")
    @Broken(in = "int changeNumber(", was = "n < 1", is = "n < 0")
    @Broken(in = "int changeNumber(", was = "n > NUMBERS", is = "n > now.points")
    static void numberIndex() {
        Edges.range("number", 1, 1, 8, (x, n) -> x.number(n, 9));
        Edges.range("number", 8, 1, 8, (x, n) -> x.number(n, -9));
        for (int n = 1; n <= 8; n++) {
            UncrossedParts x = new UncrossedParts();
            x.number(n, 7);
            for (int other = 1; other <= 8; other++) {
                Check.due("number(" + n + ", 7): x(" + other + ")", x.as(0, 0, other), other == n ? 7 : 0);
            }
        }
    }

    @Sentence(promise = 20, words = "v: the new value, -9 to 9")
    @Broken(in = "int changeNumber(", was = "v < -MOST_VALUE", is = "v <= -MOST_VALUE")
    @Broken(in = "int changeNumber(", was = "v > MOST_VALUE", is = "v >= MOST_VALUE")
    @Broken(in = "int changeNumber(", was = "v > MOST_VALUE", is = "v > MOST_VALUE + 1")
    @Broken(in = "int changeNumber(", was = "v < -MOST_VALUE", is = "v < -MOST_VALUE - 1")
    @Broken(in = "int changeNumber(", was = "numbers[n - 1] = v", is = "numbers[n - 1] = v < 0 ? -v : v")
    static void numberValue() {
        Edges.range("number", 4, -9, 9, (x, v) -> x.number(1, v));
        Edges.range("number", 4, -9, 9, (x, v) -> x.number(8, v));
        UncrossedParts x = new UncrossedParts();
        for (int v = -9; v <= 9; v++) {
            x.number(8, v);
            Check.due("number(8, " + v + "): x(8)", x.as(0, 0, 8), v);
        }
    }

    @Sentence(promise = 20, words = "Returns the value that it had plus 100")
    @Broken(in = "int changeNumber(", was = "had + 100", is = "v + 100")
    @Broken(in = "int changeNumber(", was = "had + 100", is = "had")
    static void numberReturns() {
        UncrossedParts x = new UncrossedParts();
        Check.due("number(8, -9)", x.number(8, -9), 100);
        Check.due("number(8, 9)", x.number(8, 9), 91);
        Check.due("number(8, 9) again", x.number(8, 9), 109);
        Check.due("number(8, 0)", x.number(8, 0), 109);
        Check.due("number(8, 0) again", x.number(8, 0), 100);
        Check.due("number(1, 0)", x.number(1, 0), 100);
    }

    @Sentence(promise = 20, words = "BAD if an argument is out of range")
    @Broken(in = "int changeNumber(", was = "return BAD", is = "return NO")
    @Broken(in = "int changeNumber(", was = "n < 1", is = "n == 0")
    @Broken(in = "int changeNumber(", was = "v < -MOST_VALUE", is = "v == -MOST_VALUE - 1")
    @Broken(in = "int changeNumber(", was = "v > MOST_VALUE", is = "v == MOST_VALUE + 1")
    @Broken(in = "int changeNumber(", was = "n > NUMBERS", is = "n == NUMBERS + 1")
    static void numberBad() {
        Edges.bad("number", 8, 1, 8, (x, n) -> x.number(n, 0));
        Edges.bad("number", 8, -9, 9, (x, v) -> x.number(1, v));
        Edges.refused("number(0, 10)", 4, -2, x -> x.number(0, 10));
        Edges.refused("number(9, -10)", 4, -2, x -> x.number(9, -10));
    }

    private static void asRange(int first, int last, Edges.CallWith c) {
        Edges.range("as", 1, first, last, Edges.BAD_LONG, c);
        Edges.range("as", 8, first, last, Edges.BAD_LONG, c);
    }

    @Sentence(promise = 21, words = "Converts the numbers from one kind to another one or the same.")
    @Broken(in = "public long as(", was = "j < 0", is = "j == k || j < 0")
    @Broken(in = "void convert(", was = "given[n] = numbers[n - 1]",
        is = "given[n] = n < 8 || from != to ? numbers[n - 1] : 0")
    @Broken(in = "void convert(", was = "remainder(to, n, wanted)", is = "remainder(to % 2, n, wanted)")
    static void asTheSame() {
        for (int j = 0; j < 3; j++) {
            row("all 9", all(9), j, j, 9, 9, 9, 9, 9, 9, 9, 9);
            row("all -9", all(-9), j, j, -9, -9, -9, -9, -9, -9, -9, -9);
            row("new", new UncrossedParts(), j, j, 0, 0, 0, 0, 0, 0, 0, 0);
            row("new", new UncrossedParts(), j, 2 - j, 0, 0, 0, 0, 0, 0, 0, 0);
        }
    }

    @Sentence(promise = 21, words = "j: the kind as which the numbers x(1) to x(8) are seen, 0 to 2")
    @Broken(in = "public long as(", was = "j < 0", is = "j < 1")
    @Broken(in = "public long as(", was = "j < 0", is = "j < -1")
    @Broken(in = "public long as(", was = "j >= KINDS", is = "j >= KINDS - 1")
    @Broken(in = "public long as(", was = "j >= KINDS", is = "j > KINDS")
    static void asFrom() {
        asRange(0, 2, (x, j) -> x.as(j, 0, 8));
        UncrossedParts x = all(1);
        long[] due = {1, 1430, 4140};
        for (int j = 0; j < 3; j++) {
            Check.due("as(" + j + ", 0, 8)", x.as(j, 0, 8), due[j]);
        }
    }

    @Sentence(promise = 21, words = "k: the kind that is wanted, 0 to 2")
    @Broken(in = "public long as(", was = "k < 0", is = "k < 1")
    @Broken(in = "public long as(", was = "k < 0", is = "k < -1")
    @Broken(in = "public long as(", was = "k >= KINDS", is = "k >= KINDS - 1")
    @Broken(in = "public long as(", was = "k >= KINDS", is = "k > KINDS")
    static void asTo() {
        asRange(0, 2, (x, k) -> x.as(0, k, 8));
        // Moments that are all 1 have the first cumulant alone.
        UncrossedParts x = all(1);
        long[] due = {1, 0, 0};
        for (int k = 0; k < 3; k++) {
            Check.due("as(0, " + k + ", 1)", x.as(0, k, 1), 1);
            Check.due("as(0, " + k + ", 8)", x.as(0, k, 8), due[k]);
        }
    }

    @Sentence(promise = 21, words = "n: the index of the wanted number, 1 to 8")
    @Broken(in = "public long as(", was = "n < 1", is = "n < 2")
    @Broken(in = "public long as(", was = "n < 1", is = "n < 0")
    @Broken(in = "public long as(", was = "n > NUMBERS", is = "n >= NUMBERS")
    @Broken(in = "public long as(", was = "n > NUMBERS", is = "n > NUMBERS + 1")
    @Broken(in = "public long as(", was = "n > NUMBERS", is = "n > board.now.points")
    static void asIndex() {
        asRange(1, 8, (x, n) -> x.as(0, 0, n));
        asRange(1, 8, (x, n) -> x.as(2, 1, n));
    }

    @Sentence(promise = 21, words = "Returns the n-th number of kind k")
    @Broken(in = "public long as(", was = "return series.wanted[n]", is = "return (int) series.wanted[n]")
    @Broken(in = "public long as(", was = "return series.wanted[n]",
        is = "return series.wanted[n] == BAD ? bad() : series.wanted[n]")
    static void asReturns() {
        int[] all = {9, -9};
        for (int v : all) {
            UncrossedParts x = new UncrossedParts();
            x.number(1, v);
            Check.due("a first moment of " + v + ": as(0, 1, 1)", x.as(0, 1, 1), v);
            Check.due("a first moment of " + v + ": as(0, 2, 1)", x.as(0, 2, 1), v);
            // No int can hold these: -429 and -5040 times the 8th power of 9.
            Check.due("a first moment of " + v + ": as(0, 1, 8)", x.as(0, 1, 8), -18467043309L);
            Check.due("a first moment of " + v + ": as(0, 2, 8)", x.as(0, 2, 8), -216955473840L);
        }
        UncrossedParts x = all(-2);
        for (int n = 1; n <= 8; n++) {
            Check.due("a number like BAD: as(0, 0, " + n + ")", x.as(0, 0, n), -2);
        }
        Check.due("a number like BAD is not counted: told(0)", x.told(0), 0);
    }

    @Sentence(promise = 21, words = "-1000000000000000 (which is counted as BAD) if an argument is out of range")
    @Broken(in = "BAD_LONG = ", was = "-1000000000000000L", is = "-100000000000000L")
    @Broken(in = "public long as(", was = "return BAD_LONG", is = "return BAD")
    @Broken(in = "public long as(", was = "bads++", is = "nos++")
    @Broken(in = "public long as(", was = "bads++;", is = "")
    @Broken(in = "public long as(", was = "j < 0", is = "j == -1")
    @Broken(in = "public long as(", was = "k >= KINDS", is = "k == KINDS")
    @Broken(in = "public long as(", was = "n < 1", is = "n == 0 || n == -1")
    static void asBad() {
        int[] kinds = {Edges.LOWEST, -1, 3, Edges.GREATEST};
        int[] indices = {Edges.LOWEST, -1, 0, 9, Edges.GREATEST};
        for (int kind : kinds) {
            Edges.refused("as(" + kind + ", 0, 1)", 4, Edges.BAD_LONG, -2, x -> x.as(kind, 0, 1));
            Edges.refused("as(0, " + kind + ", 8)", 4, Edges.BAD_LONG, -2, x -> x.as(0, kind, 8));
        }
        for (int n : indices) {
            Edges.refused("as(2, 2, " + n + ")", 4, Edges.BAD_LONG, -2, x -> x.as(2, 2, n));
        }
        Edges.refused("as(3, 3, 9)", 4, Edges.BAD_LONG, -2, x -> x.as(3, 3, 9));
    }
}
