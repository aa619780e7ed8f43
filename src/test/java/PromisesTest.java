/** Each promise by hand: ordinary inputs, the edges that the document names, and wrong inputs. */
public final class PromisesTest {
    private static final int LOWEST = Integer.MIN_VALUE;
    private static final int GREATEST = Integer.MAX_VALUE;

    private PromisesTest() {
    }

    public static void main(String[] args) {
        newObject();
        points();
        puts();
        meetsAndJoins();
        complementsAndTurns();
        takes();
        of();
        row();
        below();
        count();
        evens();
        covers();
        mark();
        chains();
        marked();
        signed();
        between();
        number();
        as();
        typeAndClear();
        back();
        told();
        errorsChangeNothing();
        digest();
        Check.end();
    }

    private static void rows(String call, UncrossedParts x, int s, String row) {
        for (int p = 0; p < row.length(); p++) {
            Check.due(call + ", then row(" + s + ", " + p + ")", x.row(s, p), row.charAt(p) - '0');
        }
    }

    private static void newObject() {
        UncrossedParts x = new UncrossedParts();
        Check.due("new: NONE", UncrossedParts.NONE, -1);
        Check.due("new: BAD", UncrossedParts.BAD, -2);
        Check.due("new: NO", UncrossedParts.NO, -3);
        Check.due("new: FULL", UncrossedParts.FULL, -4);
        Check.due("new: count(0)", x.count(0), 4);
        for (int what = 0; what < 5; what++) {
            Check.due("new: told(" + what + ")", x.told(what), 0);
        }
        for (int s = 0; s < 6; s++) {
            rows("new", x, s, "0123");
        }
        for (int n = 1; n <= 8; n++) {
            Check.due("new: x(" + n + ")", x.as(0, 0, n), 0);
        }
        Check.due("new: back()", x.back(), -3);
        UncrossedParts other = new UncrossedParts();
        x.puts(0, 0, 1);
        rows("another object", other, 0, "0123");
    }

    private static void points() {
        UncrossedParts x = new UncrossedParts();
        x.number(3, -7);
        x.puts(2, 0, 3);
        Check.due("points(8)", x.points(8), 4);
        rows("points(8)", x, 2, "01234567");
        Check.due("points(8): the numbers stay", x.as(0, 0, 3), -7);
        x.puts(2, 0, 3);
        Check.due("points of the same N", x.points(8), 8);
        rows("points of the same N", x, 2, "01234567");
        Check.due("points(1)", x.points(1), 8);
        Check.due("points(1): row(5, 0)", x.row(5, 0), 0);
        Check.due("points(1): row(5, 1)", x.row(5, 1), -2);
        int[] wrong = {0, 9, -1, LOWEST, GREATEST};
        for (int k : wrong) {
            Check.due("points(" + k + ")", x.points(k), -2);
        }
        Check.due("points: told(0)", x.told(0), 6);
        Check.due("points: back()", x.back(), 4);
        Check.due("points: count(0)", x.count(0), 8);
        Check.due("points: back()", x.back(), 3);
        rows("points undone", x, 2, "01204567");
    }

    private static void puts() {
        UncrossedParts x = new UncrossedParts();
        x.points(8);
        Check.due("puts(0, 5, 2)", x.puts(0, 5, 2), 1);
        Check.due("puts(0, 5, 2) again", x.puts(0, 5, 2), 1);
        Check.due("puts(0, 3, 3)", x.puts(0, 3, 3), 1);
        Check.due("puts(0, 3, 4)", x.puts(0, 3, 4), 2);
        rows("puts side by side", x, 0, "01233267");
        Check.due("puts(0, 0, 7)", x.puts(0, 0, 7), 3);
        Check.due("puts(0, 1, 3)", x.puts(0, 1, 3), 5);
        rows("puts across a block", x, 0, "01111160");
        Check.due("puts(0, 6, 4)", x.puts(0, 6, 4), 6);
        Check.due("puts(0, 0, 6)", x.puts(0, 0, 6), 7);
        x.puts(1, 0, 2);
        x.puts(1, 3, 5);
        x.puts(1, 6, 7);
        Check.due("puts across two blocks", x.puts(1, 1, 4), 6);
        rows("puts across two blocks", x, 1, "00000066");
        int[][] wrong = {{6, 0, 0}, {-1, 0, 0}, {0, 8, 0}, {0, 0, 8}, {0, -1, 0}, {0, 0, -1}, {LOWEST, 0, 0},
            {0, GREATEST, 1}, {0, 1, LOWEST}};
        for (int[] w : wrong) {
            Check.due("puts of wrong arguments", x.puts(w[0], w[1], w[2]), -2);
        }
        Check.due("puts: told(0)", x.told(0), wrong.length);
        Check.due("puts: back()", x.back(), 4);
        rows("puts undone", x, 1, "01034366");
    }

    private static void meetsAndJoins() {
        UncrossedParts x = new UncrossedParts();
        x.points(6);
        x.puts(0, 0, 2);
        x.puts(0, 2, 4);
        x.puts(1, 1, 2);
        x.puts(1, 2, 4);
        Check.due("meets(2, 0, 1)", x.meets(2, 0, 1), 1);
        rows("meets", x, 2, "012325");
        Check.due("joins(3, 0, 1)", x.joins(3, 0, 1), 3);
        rows("joins", x, 3, "000305");
        Check.due("meets(3, 3, 3)", x.meets(3, 3, 3), 3);
        Check.due("joins(4, 4, 4)", x.joins(4, 4, 4), 0);
        Check.due("meets(0, 0, 1)", x.meets(0, 0, 1), 1);
        rows("meets into its first slot", x, 0, "012325");
        Check.due("told(4)", x.told(4), 5);
        Check.due("meets undone", x.back(), 4);
        rows("meets undone", x, 0, "010305");
        Check.due("joins(1, 0, 1)", x.joins(1, 0, 1), 3);
        rows("joins into its second slot", x, 1, "000305");
        x.puts(4, 0, 3);
        x.puts(5, 1, 5);
        x.puts(5, 2, 4);
        Check.due("joins of crossing blocks", x.joins(4, 4, 5), 5);
        int[][] wrong = {{6, 0, 0}, {0, 6, 0}, {0, 0, 6}, {-1, 0, 0}, {0, -1, 0}, {0, 0, -1}, {GREATEST, 0, 0},
            {0, LOWEST, 0}, {0, 0, GREATEST}};
        for (int[] w : wrong) {
            Check.due("meets of wrong arguments", x.meets(w[0], w[1], w[2]), -2);
            Check.due("joins of wrong arguments", x.joins(w[0], w[1], w[2]), -2);
        }
        Check.due("meets and joins: told(0)", x.told(0), 2 * wrong.length);
    }

    private static void complementsAndTurns() {
        UncrossedParts x = new UncrossedParts();
        x.points(5);
        x.puts(0, 0, 4);
        x.puts(0, 1, 3);
        Check.due("complements(1, 0)", x.complements(1, 0), 2);
        rows("complements", x, 1, "01104");
        Check.due("complements(0, 0)", x.complements(0, 0), 2);
        rows("complements into its own slot", x, 0, "01104");
        Check.due("complements of the finest one", x.complements(2, 3), 4);
        Check.due("complements of the coarsest one", x.complements(2, 2), 0);
        Check.due("turns(4, 0)", x.turns(4, 0), 34);
        rows("turns", x, 4, "01221");
        Check.due("turns of the finest one", x.turns(3, 3), 41);
        Check.due("turns(4, 4)", x.turns(4, 4), 17);
        rows("turns into its own slot", x, 4, "01033");
        Check.due("turns undone", x.back(), 4);
        rows("turns undone", x, 4, "01221");
        int[][] wrong = {{6, 0}, {0, 6}, {-1, 0}, {0, -1}, {LOWEST, 0}, {0, GREATEST}};
        for (int[] w : wrong) {
            Check.due("complements of wrong arguments", x.complements(w[0], w[1]), -2);
            Check.due("turns of wrong arguments", x.turns(w[0], w[1]), -2);
        }
        Check.due("complements and turns: told(0)", x.told(0), 2 * wrong.length);
    }

    private static void takes() {
        UncrossedParts x = new UncrossedParts();
        // In the order of their rows; 0101 is not among them, since it crosses.
        String[] all = {"0000", "0003", "0020", "0022", "0023", "0100", "0103", "0110", "0111", "0113", "0120", "0121",
            "0122", "0123"};
        int[] ranks = {3, 2, 2, 2, 1, 2, 1, 2, 2, 1, 1, 1, 1, 0};
        for (int k = 0; k < all.length; k++) {
            Check.due("takes(5, " + k + ")", x.takes(5, k), ranks[k]);
            rows("takes(5, " + k + ")", x, 5, all[k]);
            Check.due("of(5, 0)", x.of(5, 0), k);
        }
        Check.due("takes(5, 14)", x.takes(5, 14), -2);
        Check.due("takes(5, -1)", x.takes(5, -1), -2);
        Check.due("takes(6, 0)", x.takes(6, 0), -2);
        Check.due("takes(-1, 0)", x.takes(-1, 0), -2);
        Check.due("takes(0, greatest)", x.takes(0, GREATEST), -2);
        Check.due("takes(0, lowest)", x.takes(0, LOWEST), -2);
        Check.due("takes: told(4)", x.told(4), 5);
        Check.due("takes undone", x.back(), 4);
        Check.due("takes undone", x.of(5, 0), 12);
        x.points(8);
        Check.due("takes(0, 1429)", x.takes(0, 1429), 0);
        Check.due("takes(0, 1430)", x.takes(0, 1430), -2);
        x.points(1);
        Check.due("takes(0, 0)", x.takes(0, 0), 0);
        Check.due("takes(0, 1)", x.takes(0, 1), -2);
    }

    private static void of() {
        UncrossedParts x = new UncrossedParts();
        x.points(7);
        x.puts(0, 1, 3);
        x.puts(0, 3, 5);
        x.puts(0, 0, 6);
        int[] due = {x.of(0, 0), 3, 2, 3, 3, 4};
        for (int what = 0; what < 6; what++) {
            Check.due("of(0, " + what + ")", x.of(0, what), due[what]);
        }
        x.takes(1, due[0]);
        rows("of(0, 0) is the number", x, 1, "0121410");
        x.points(1);
        int[] alone = {0, 0, 1, 1, 0, 0};
        for (int what = 0; what < 6; what++) {
            Check.due("one point: of(0, " + what + ")", x.of(0, what), alone[what]);
        }
        int[][] wrong = {{6, 0}, {-1, 0}, {0, 6}, {0, -1}, {LOWEST, 1}, {0, GREATEST}};
        for (int[] w : wrong) {
            Check.due("of of wrong arguments", x.of(w[0], w[1]), -2);
        }
        Check.due("of: told(0)", x.told(0), wrong.length);
    }

    private static void row() {
        UncrossedParts x = new UncrossedParts();
        x.puts(3, 3, 1);
        rows("row", x, 3, "0121");
        int[][] wrong = {{6, 0}, {-1, 0}, {0, 4}, {0, -1}, {GREATEST, 0}, {0, LOWEST}};
        for (int[] w : wrong) {
            Check.due("row of wrong arguments", x.row(w[0], w[1]), -2);
        }
        x.points(8);
        Check.due("row(0, 7)", x.row(0, 7), 7);
        Check.due("row: told(0)", x.told(0), wrong.length);
    }

    private static void below() {
        UncrossedParts x = new UncrossedParts();
        x.puts(0, 0, 1);
        x.puts(1, 0, 1);
        x.puts(1, 1, 3);
        x.puts(2, 2, 3);
        Check.due("below(0, 1)", x.below(0, 1), 1);
        Check.due("below(1, 0)", x.below(1, 0), 0);
        Check.due("below(0, 0)", x.below(0, 0), 1);
        Check.due("below(0, 2)", x.below(0, 2), 0);
        Check.due("below(2, 1)", x.below(2, 1), 0);
        Check.due("below(5, 2)", x.below(5, 2), 1);
        Check.due("below(3, 4)", x.below(3, 4), 1);
        int[][] wrong = {{6, 0}, {-1, 0}, {0, 6}, {0, -1}, {LOWEST, 1}, {0, GREATEST}};
        for (int[] w : wrong) {
            Check.due("below of wrong arguments", x.below(w[0], w[1]), -2);
        }
        Check.due("below: told(0)", x.told(0), wrong.length);
    }

    private static void count() {
        int[] all = {1, 2, 5, 14, 42, 132, 429, 1430};
        UncrossedParts x = new UncrossedParts();
        for (int n = 1; n <= 8; n++) {
            x.points(n);
            Check.due("count(0)", x.count(0), n);
            Check.due("count(1)", x.count(1), all[n - 1]);
            int sum = 0;
            for (int k = 0; k < 8; k++) {
                sum += x.count(2 + k);
                Check.due("none above the rank N - 1", k < n || x.count(2 + k) == 0 ? 1 : 0, 1);
            }
            Check.due("all ranks together", sum, all[n - 1]);
        }
        int[] eight = {1, 28, 196, 490, 490, 196, 28, 1};
        for (int k = 0; k < 8; k++) {
            Check.due("eight points: count(" + (2 + k) + ")", x.count(2 + k), eight[k]);
        }
        Check.due("count(10)", x.count(10), -2);
        Check.due("count(-1)", x.count(-1), -2);
        Check.due("count(lowest)", x.count(LOWEST), -2);
        Check.due("count(greatest)", x.count(GREATEST), -2);
    }

    private static void evens() {
        int[] due = {-3, 2, -3, 6, -3, 20, -3, 70};
        UncrossedParts x = new UncrossedParts();
        for (int n = 1; n <= 8; n++) {
            x.points(n);
            Check.due(n + " points: evens()", x.evens(), due[n - 1]);
        }
        Check.due("evens: told(1)", x.told(1), 4);
    }

    private static void covers() {
        UncrossedParts x = new UncrossedParts();
        int[] finest = {4, 6, 9, 10, 11, 12};
        for (int i = 0; i < finest.length; i++) {
            Check.due("covers(0, " + i + ")", x.covers(0, i), finest[i]);
        }
        Check.due("covers(0, 6)", x.covers(0, 6), -1);
        Check.due("covers(0, greatest)", x.covers(0, GREATEST), -1);
        x.puts(0, 0, 2);
        Check.due("0 and 2: covers(0, 0)", x.covers(0, 0), 1);
        Check.due("0 and 2: covers(0, 1)", x.covers(0, 1), 5);
        Check.due("0 and 2: covers(0, 2)", x.covers(0, 2), -1);
        x.takes(0, 0);
        Check.due("the coarsest one: covers(0, 0)", x.covers(0, 0), -1);
        Check.due("covers(0, -1)", x.covers(0, -1), -2);
        Check.due("covers(0, lowest)", x.covers(0, LOWEST), -2);
        Check.due("covers(6, 0)", x.covers(6, 0), -2);
        Check.due("covers(-1, 0)", x.covers(-1, 0), -2);
        x.points(1);
        Check.due("one point: covers(0, 0)", x.covers(0, 0), -1);
        Check.due("covers: told(0)", x.told(0), 4);
    }

    private static void mark() {
        UncrossedParts x = new UncrossedParts();
        x.points(8);
        x.puts(0, 1, 2);
        x.puts(0, 2, 6);
        x.puts(0, 3, 5);
        x.joins(1, 0, 0);
        x.puts(1, 3, 6);
        Check.due("between the points of the first block", x.mark(0, 1), 2);
        x.joins(2, 0, 0);
        x.puts(2, 4, 5);
        Check.due("inside", x.mark(0, 2), 3);
        x.joins(3, 0, 0);
        x.puts(3, 7, 6);
        Check.due("behind", x.mark(0, 3), 6);
        x.joins(4, 0, 0);
        x.puts(4, 0, 6);
        Check.due("before", x.mark(0, 4), 0);
        Check.due("the other way round", x.mark(1, 0), -3);
        Check.due("the same one", x.mark(0, 0), -3);
        Check.due("not below", x.mark(1, 2), -3);
        x.joins(5, 1, 2);
        Check.due("two steps", x.mark(0, 5), -3);
        Check.due("mark(6, 0)", x.mark(6, 0), -2);
        Check.due("mark(0, -1)", x.mark(0, -1), -2);
        Check.due("mark: told(0)", x.told(0), 2);
        Check.due("mark: told(1)", x.told(1), 4);
    }

    private static void chains() {
        int[] due = {1, 1, 3, 16, 125, 1296, 16807, 262144};
        UncrossedParts x = new UncrossedParts();
        for (int n = 1; n <= 8; n++) {
            x.points(n);
            x.takes(1, 0);
            Check.due(n + " points: chains(0, 1)", x.chains(0, 1), due[n - 1]);
            Check.due(n + " points: chains(1, 0)", x.chains(1, 0), n == 1 ? 1 : -3);
            Check.due(n + " points: chains(1, 1)", x.chains(1, 1), 1);
        }
        x.puts(2, 0, 2);
        x.puts(2, 0, 4);
        x.puts(3, 5, 7);
        x.puts(3, 5, 6);
        x.joins(3, 2, 3);
        Check.due("two blocks of three: the steps are shuffled", x.chains(0, 3), 54);
        Check.due("chains(2, 3)", x.chains(2, 3), 3);
        Check.due("chains(2, 1)", x.chains(2, 1), 320);
        Check.due("chains(3, 2)", x.chains(3, 2), -3);
        Check.due("chains(6, 0)", x.chains(6, 0), -2);
        Check.due("chains(0, -1)", x.chains(0, -1), -2);
        Check.due("chains: told(0)", x.told(0), 2);
        Check.due("chains: told(1)", x.told(1), 8);
    }

    private static void marked() {
        UncrossedParts x = new UncrossedParts();
        Check.due("marked(0)", x.marked(0), 1);
        Check.due("marked(12)", x.marked(12), 1);
        Check.due("marked(210)", x.marked(210), 1);
        Check.due("marked(111)", x.marked(111), 0);
        Check.due("marked(22)", x.marked(22), 0);
        Check.due("marked(3)", x.marked(3), 0);
        Check.due("marked(777)", x.marked(777), 0);
        Check.due("marked(778)", x.marked(778), -2);
        Check.due("marked(800)", x.marked(800), -2);
        Check.due("marked(1000)", x.marked(1000), -2);
        Check.due("marked(-1)", x.marked(-1), -2);
        x.points(1);
        Check.due("one point: marked(0)", x.marked(0), 1);
        Check.due("one point: marked(1)", x.marked(1), -2);
        x.points(8);
        Check.due("marked(6543210)", x.marked(6543210), 1);
        Check.due("marked(7654321)", x.marked(7654321), 0);
        Check.due("marked(7777777)", x.marked(7777777), 0);
        Check.due("marked(10000000)", x.marked(10000000), -2);
        Check.due("marked(greatest)", x.marked(GREATEST), -2);
        Check.due("marked(lowest)", x.marked(LOWEST), -2);
    }

    private static void signed() {
        int[] due = {1, -1, 2, -5, 14, -42, 132, -429};
        UncrossedParts x = new UncrossedParts();
        for (int n = 1; n <= 8; n++) {
            x.points(n);
            x.takes(1, 0);
            Check.due(n + " points: signed(0, 1)", x.signed(0, 1), due[n - 1]);
            Check.due(n + " points: signed(1, 0)", x.signed(1, 0), n == 1 ? 1 : -3);
            Check.due(n + " points: signed(0, 0)", x.signed(0, 0), 1);
        }
        x.puts(2, 0, 1);
        x.puts(2, 1, 2);
        x.puts(2, 3, 4);
        int bads = x.told(0);
        Check.due("a value like BAD", x.signed(0, 2), -2);
        Check.due("is not counted", x.told(0), bads);
        Check.due("signed(6, 0)", x.signed(6, 0), -2);
        Check.due("signed(0, -1)", x.signed(0, -1), -2);
        Check.due("signed: told(0)", x.told(0), bads + 2);
        Check.due("signed: told(1)", x.told(1), 7);
    }

    private static void between() {
        UncrossedParts x = new UncrossedParts();
        x.points(8);
        x.takes(1, 0);
        Check.due("between(0, 1)", x.between(0, 1), 1430);
        Check.due("between(1, 1)", x.between(1, 1), 1);
        Check.due("between(1, 0)", x.between(1, 0), -3);
        x.puts(2, 0, 3);
        x.puts(2, 4, 7);
        Check.due("between(0, 2)", x.between(0, 2), 4);
        Check.due("between(2, 1)", x.between(2, 1), 50);
        Check.due("between(6, 0)", x.between(6, 0), -2);
        Check.due("between(0, -1)", x.between(0, -1), -2);
        Check.due("between: told(1)", x.told(1), 1);
    }

    private static void number() {
        UncrossedParts x = new UncrossedParts();
        Check.due("number(1, -9)", x.number(1, -9), 100);
        Check.due("number(1, 9)", x.number(1, 9), 91);
        Check.due("number(1, 0)", x.number(1, 0), 109);
        Check.due("number(8, 4)", x.number(8, 4), 100);
        Check.due("number(8, 4) again", x.number(8, 4), 104);
        int[][] wrong = {{0, 0}, {9, 0}, {1, -10}, {1, 10}, {-1, 0}, {LOWEST, 0}, {1, GREATEST}, {1, LOWEST}};
        for (int[] w : wrong) {
            Check.due("number of wrong arguments", x.number(w[0], w[1]), -2);
        }
        Check.due("number: told(0)", x.told(0), wrong.length);
        Check.due("number undone", x.back(), 4);
        Check.due("number undone", x.back(), 3);
        Check.due("number undone", x.as(0, 0, 8), 0);
        Check.due("number undone", x.back(), 2);
        Check.due("number undone", x.as(0, 0, 1), 9);
    }

    private static void as() {
        UncrossedParts x = new UncrossedParts();
        x.number(2, 1);
        long[] free = {0, 1, 0, 2, 0, 5, 0, 14};
        long[] classical = {0, 1, 0, 3, 0, 15, 0, 105};
        for (int n = 1; n <= 8; n++) {
            Check.due("the semicircle: as(1, 0, " + n + ")", x.as(1, 0, n), free[n - 1]);
            Check.due("the bell curve: as(2, 0, " + n + ")", x.as(2, 0, n), classical[n - 1]);
        }
        int[] moments = {1, 2, 5};
        for (int n = 1; n <= 3; n++) {
            x.number(n, moments[n - 1]);
            Check.due("the same kind", x.as(n - 1, n - 1, n), moments[n - 1]);
        }
        Check.due("as(0, 1, 3)", x.as(0, 1, 3), 1);
        Check.due("as(0, 2, 3)", x.as(0, 2, 3), 1);
        int[][] wrong = {{-1, 0, 1}, {3, 0, 1}, {0, -1, 1}, {0, 3, 1}, {0, 0, 0}, {0, 0, 9}, {LOWEST, 0, 1},
            {0, GREATEST, 1}, {0, 0, LOWEST}};
        for (int[] w : wrong) {
            Check.due("as of wrong arguments", x.as(w[0], w[1], w[2]), -1000000000000000L);
        }
        Check.due("as: told(0)", x.told(0), wrong.length);
    }

    private static void typeAndClear() {
        UncrossedParts x = new UncrossedParts();
        Check.due("type(0)", x.type(0), 1);
        Check.due("type(127)", x.type(127), 2);
        Check.due("type(128)", x.type(128), -2);
        Check.due("type(-1)", x.type(-1), -2);
        Check.due("type(lowest)", x.type(LOWEST), -2);
        Check.due("type(greatest)", x.type(GREATEST), -2);
        Check.due("told(3)", x.told(3), 2);
        Check.due("typing can't be undone", x.told(4), 0);
        Check.due("clear()", x.clear(), 2);
        Check.due("clear() again", x.clear(), 0);
        Check.due("told(3)", x.told(3), 0);
        for (int i = 1; i <= 120; i++) {
            Check.due("type", x.type(' '), i);
        }
        Check.due("type into a full text", x.type(' '), -4);
        Check.due("type into a full text, out of range", x.type(-1), -2);
        Check.due("told(2)", x.told(2), 1);
        x.points(3);
        x.back();
        Check.due("the text stays when a call is undone", x.told(3), 120);
        Check.due("only blanks", x.does(), -130);
    }

    private static void back() {
        UncrossedParts x = new UncrossedParts();
        for (int i = 1; i <= 7; i++) {
            x.number(1, i);
            Check.due("told(4)", x.told(4), Math.min(i, 5));
        }
        for (int i = 6; i >= 2; i--) {
            Check.due("back()", x.back(), i - 2);
            Check.due("x(1)", x.as(0, 0, 1), i);
        }
        Check.due("back() of none", x.back(), -3);
        Check.due("x(1) stays", x.as(0, 0, 1), 2);
        Check.due("told(1)", x.told(1), 1);
        x.puts(0, 0, 3);
        x.puts(0, 1, 1);
        x.points(6);
        x.turns(1, 1);
        x.does();
        Check.due("told(4)", x.told(4), 4);
        Check.due("back()", x.back(), 3);
        Check.due("back()", x.back(), 2);
        Check.due("N and the slots", x.count(0), 4);
        rows("back", x, 0, "0120");
        x.complements(2, 0);
        Check.due("a new call behind an undone one", x.told(4), 3);
        Check.due("back()", x.back(), 2);
        rows("back", x, 2, "0123");
        Check.due("back()", x.back(), 1);
        Check.due("back()", x.back(), 0);
        rows("back", x, 0, "0123");
        Check.due("back()", x.back(), -3);
    }

    private static void told() {
        UncrossedParts x = new UncrossedParts();
        Check.due("told(5)", x.told(5), -2);
        Check.due("told(-1)", x.told(-1), -2);
        Check.due("told(lowest)", x.told(LOWEST), -2);
        Check.due("told(0)", x.told(0), 3);
        x.back();
        x.covers(0, 99);
        x.does();
        Check.due("told(0)", x.told(0), 3);
        Check.due("told(1)", x.told(1), 1);
        Check.due("told(2)", x.told(2), 0);
    }

    /** A wrong call changes the count of its kind alone. */
    private static void errorsChangeNothing() {
        UncrossedParts x = new UncrossedParts();
        UncrossedParts same = new UncrossedParts();
        x.puts(0, 0, 2);
        same.puts(0, 0, 2);
        x.points(9);
        x.puts(0, 1, 4);
        x.meets(0, 1, 6);
        x.joins(0, 1, 6);
        x.complements(0, 6);
        x.turns(0, 6);
        x.takes(0, 14);
        x.number(1, 10);
        x.as(0, 0, 9);
        x.mark(0, 0);
        x.signed(0, 1);
        for (int i = 0; i < 9; i++) {
            same.told(5);
        }
        same.chains(0, 1);
        same.between(0, 1);
        Check.due("wrong calls", x.digest(), same.digest());
    }

    private static void digest() {
        UncrossedParts x = new UncrossedParts();
        x.number(1, 2);
        long h = 2413;
        long[] values = {0, 0, 0, 0, 1, 4, 14, 1, 6, 6, 1, 0, 0, 0, 0};
        long[] slot = {13, 0, 4, 1, 6, 0, 0, 1, 2, 3};
        long[] numbers = {2, 0, 0, 0, 0, 0, 0, 0};
        long[] freeOf = {2, -4, 16, -80, 448, -2688, 16896, -109824};
        long[] classicalOf = {2, -4, 16, -96, 768, -7680, 92160, -1290240};
        long[] powers = {2, 4, 8, 16, 32, 64, 128, 256};
        long[][] all = {values, slot, slot, slot, slot, slot, slot, numbers, freeOf, classicalOf, powers, powers};
        for (long[] row : all) {
            for (long value : row) {
                h = 31 * h + value;
            }
        }
        Check.due("digest()", x.digest(), h);
        Check.due("digest() again", x.digest(), h);
    }
}
