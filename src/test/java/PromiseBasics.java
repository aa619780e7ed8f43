/** What the promises say first, before they come to arguments, answers and boundary cases. */
final class PromiseBasics {
    private static final int POINTS = 5;

    private PromiseBasics() {
    }

    /** What is due for the partitions with the numbers a and b, by the definitions. */
    private interface Due {
        long of(AllParts parts, int a, int b);
    }

    /** Makes a call for all pairs of partitions of five points, which stand in the slots 0 and 1. */
    private static void pairs(String call, Edges.Call c, Due due) {
        AllParts parts = AllParts.of(POINTS);
        for (int a = 0; a < parts.size(); a++) {
            for (int b = 0; b < parts.size(); b++) {
                UncrossedParts x = Edges.at(POINTS);
                x.takes(0, a);
                x.takes(1, b);
                Check.due("partitions " + a + " and " + b + ": " + call, c.on(x), due.of(parts, a, b));
            }
        }
    }

    /** Makes a call that puts a partition into slot 2, for all pairs; the answer is its number there. */
    private static void puts(String call, Edges.Call c, Due due) {
        Edges.Call numbered = x -> {
            c.on(x);
            return x.of(2, 0);
        };
        pairs(call + ", then of(2, 0)", numbered, due);
    }

    /** The answer where the call is possible; NO elsewhere. */
    private static long where(boolean isPossible, long answer) {
        return isPossible ? answer : UncrossedParts.NO;
    }

    @Sentence(promise = 4, words = "Puts the meet of the partitions of two slots into a slot.")
    @Broken(in = "int putMeet(", was = "lattice.meet(", is = "lattice.join(")
    @Broken(in = "int putMeet(", was = "now.parts[a], now.parts[b]", is = "now.parts[a], now.parts[a]")
    @Broken(in = "int putMeet(", was = "return putMade(s)", is = "return made.rank()")
    @Broken(in = "void meet(", was = "made.low[x] = y", is = "made.low[x] = y + 1 < x ? y : x")
    static void meet() {
        puts("meets(2, 0, 1)", x -> x.meets(2, 0, 1), AllParts::meet);
    }

    @Sentence(promise = 5, words = "Puts the join of the partitions of two slots into a slot.")
    @Broken(in = "int putJoin(", was = "lattice.join(", is = "lattice.meet(")
    @Broken(in = "int putJoin(", was = "now.parts[a], now.parts[b]", is = "now.parts[b], now.parts[b]")
    @Broken(in = "int putJoin(", was = "return putMade(s)", is = "return made.rank()")
    @Broken(in = "void uncomplement(", was = "complement.previous(y)", is = "complement.next(y)")
    static void join() {
        puts("joins(2, 0, 1)", x -> x.joins(2, 0, 1), AllParts::join);
    }

    @Sentence(promise = 6, words = "Puts the complement of the partition of a slot into a slot.")
    @Broken(in = "int putComplement(", was = "lattice.complement(", is = "lattice.turn(")
    @Broken(in = "int putComplement(", was = "now.parts[a]", is = "now.parts[s]")
    @Broken(in = "int putComplement(", was = "return putMade(s)", is = "return putMade(a)")
    @Broken(in = "int putComplement(", was = "lattice.complement(made, now.parts[a])",
        is = "lattice.uncomplement(made, now.parts[a])")
    static void complement() {
        puts("complements(2, 0)", x -> x.complements(2, 0), (parts, a, b) -> parts.complement(a));
        puts("complements(2, 1)", x -> x.complements(2, 1), (parts, a, b) -> parts.complement(b));
    }

    @Sentence(promise = 7, words = "Puts the partition of a slot, rotated, into a slot.")
    @Broken(in = "int putTurned(", was = "lattice.turn(made, now.parts[a])", is = "made.copy(now.parts[a])")
    @Broken(in = "int putTurned(", was = "now.parts[a]", is = "now.parts[s]")
    @Broken(in = "int putTurned(", was = "putMade(s);", is = "")
    @Broken(in = "void turn(", was = "step[after(x, a.points)] = after(a.next(x), a.points)",
        is = "step[a.previous(x)] = after(a.next(x), a.points)")
    static void turn() {
        puts("turns(2, 0)", x -> x.turns(2, 0), (parts, a, b) -> parts.turned(a));
        puts("turns(2, 1)", x -> x.turns(2, 1), (parts, a, b) -> parts.turned(b));
    }

    @Sentence(promise = 8, words = "Puts the partition with a number into a slot.")
    @Broken(in = "int putPlace(", was = "now.points, k)", is = "now.points, k > 40 ? 40 : k)")
    @Broken(in = "int putPlace(", was = "return putMade(s)", is = "return made.rank()")
    @Broken(in = "void takePlace(", was = "left >= ways", is = "left > ways")
    @Broken(in = "void takePlace(", was = "depth = chosen", is = "depth = chosen > 3 ? 3 : chosen")
    static void place() {
        AllParts parts = AllParts.of(POINTS);
        for (int k = 0; k < parts.size(); k++) {
            UncrossedParts x = Edges.at(POINTS);
            x.takes(3, k);
            for (int p = 0; p < POINTS; p++) {
                Check.due("takes(3, " + k + "), then row(3, " + p + ")", x.row(3, p), parts.rows.get(k)[p]);
                Check.due("takes(3, " + k + "), then row(2, " + p + ")", x.row(2, p), p);
            }
        }
    }

    @Sentence(promise = 9, words = "Returns a property of the partition of a slot.")
    @Broken(in = "int property(", was = "lattice.placeOf(part)", is = "part.rank()")
    @Broken(in = "int property(", was = "return part.rank()", is = "return part.singles()")
    @Broken(in = "int property(", was = "part.singles()", is = "part.largest()")
    @Broken(in = "int property(", was = "part.largest()", is = "part.singles()")
    @Broken(in = "int property(", was = "lattice.coversOf(part)", is = "part.pairs()")
    @Broken(in = "int property(", was = "return part.pairs()", is = "return lattice.coversOf(part)")
    @Broken(in = "int property(", was = "now.parts[s]", is = "now.parts[1]")
    static void property() {
        pairs("of(0, 0)", x -> x.of(0, 0), (parts, a, b) -> a);
        pairs("of(1, 1)", x -> x.of(1, 1), (parts, a, b) -> parts.rank[b]);
        pairs("of(0, 2)", x -> x.of(0, 2), (parts, a, b) -> sizes(parts, a)[1]);
        pairs("of(1, 3)", x -> x.of(1, 3), (parts, a, b) -> largest(sizes(parts, b)));
        pairs("of(0, 4)", x -> x.of(0, 4), (parts, a, b) -> parts.coverCount(a));
        pairs("of(1, 5)", x -> x.of(1, 5), (parts, a, b) -> parts.coveredCount(b));
    }

    /** By the number of points: the blocks of a partition that have as many. */
    private static int[] sizes(AllParts parts, int a) {
        int[] sizes = new int[POINTS + 1];
        int[] row = parts.rows.get(a);
        for (int p = 0; p < POINTS; p++) {
            sizes[AllParts.size(row, p)]++;
        }
        return sizes;
    }

    private static int largest(int[] sizes) {
        int largest = POINTS;
        while (sizes[largest] == 0) {
            largest--;
        }
        return largest;
    }

    @Sentence(promise = 10, words = "Returns a number of the row of the partition of a slot.")
    @Broken(in = "public int row(", was = "low[x]", is = "previous(x)")
    @Broken(in = "public int row(", was = "low[x]", is = "low[x > 3 ? 3 : x]")
    @Broken(in = "public int row(", was = "board.part(s)", is = "board.part(0)")
    static void row() {
        for (int p = 0; p < POINTS; p++) {
            int point = p;
            pairs("row(0, " + p + ")", x -> x.row(0, point), (parts, a, b) -> parts.rows.get(a)[point]);
            pairs("row(1, " + p + ")", x -> x.row(1, point), (parts, a, b) -> parts.rows.get(b)[point]);
        }
    }

    @Sentence(promise = 12, words = "Returns a count.")
    @Broken(in = "int amount(", was = "what == 1 ? CATALAN[now.points]", is = "what == 1 ? now.points")
    @Broken(in = "int amount(", was = "what - 2", is = "what - 1")
    @Broken(in = "int amount(", was = "return now.points", is = "return FIRST_POINTS")
    static void count() {
        for (int n = 1; n <= 6; n++) {
            AllParts parts = AllParts.of(n);
            UncrossedParts x = Edges.at(n);
            Check.due(n + " points: count(0)", x.count(0), n);
            Check.due(n + " points: count(1)", x.count(1), parts.size());
            for (int k = 0; k <= 7; k++) {
                Check.due(n + " points: count(" + (2 + k) + ")", x.count(2 + k), parts.ranked(k));
            }
        }
    }

    @Sentence(promise = 15, words = "Returns the label of the step from the partition of a slot to that of another slot.")
    @Broken(in = "public int mark(", was = "lower.labelTo(upper)", is = "upper.labelTo(lower)")
    @Broken(in = "int labelTo(", was = "label = x", is = "label = first")
    @Broken(in = "int labelTo(", was = "x < second", is = "x < points")
    @Broken(in = "int labelTo(", was = "return label", is = "return second - 1")
    static void mark() {
        pairs("mark(0, 1)", x -> x.mark(0, 1),
            (parts, a, b) -> parts.covers(b, a) ? parts.label(a, b) : UncrossedParts.NO);
    }

    @Sentence(promise = 16, words = "Counts the chains from the partition of a slot to that of a slot.")
    @Broken(in = "int chainsOfProduct(", was = "choose(steps, size - 1) *", is = "")
    @Broken(in = "int chainsOfProduct(", was = "steps += size - 1", is = "steps = size - 1")
    @Broken(in = "int chainsOfProduct(", was = "* LONG_CHAINS[size]", is = "")
    @Broken(in = "void complementInside(", was = "a.previous(upper.next(x))", is = "a.next(upper.next(x))")
    static void chains() {
        pairs("chains(0, 1)", x -> x.chains(0, 1),
            (parts, a, b) -> where(parts.under[a][b], parts.chains(a, b)));
    }

    @Sentence(promise = 17, words = "Counts the chains, from the partition in which every point is a block by itself to the"
        + " partition with a single block, that have given labels.")
    @Broken(in = "boolean isParking(", was = "lower < k", is = "lower > k")
    @Broken(in = "boolean isParking(", was = "k < now.points", is = "k < now.points - 1")
    @Broken(in = "boolean isParking(", was = "rest /= 10", is = "rest /= 100")
    @Broken(in = "public int marked(", was = "? 1 : 0", is = "? 0 : 1")
    static void marked() {
        int[] counts = AllParts.of(POINTS).labelCounts();
        UncrossedParts x = Edges.at(POINTS);
        for (int v = 0; v < counts.length; v++) {
            if (v % 500 == 0) {
                x = Edges.at(POINTS);
            }
            boolean isLabels = !(v + "").matches(".*[89].*");
            Check.due("marked(" + v + ")", x.marked(v), isLabels ? counts[v] : UncrossedParts.BAD);
        }
    }

    @Sentence(promise = 18, words = "Returns the Möbius value of the partitions of two slots.")
    @Broken(in = "int moebiusOfProduct(", was = "-CATALAN[size - 1]", is = "CATALAN[size - 1]")
    @Broken(in = "int moebiusOfProduct(", was = "product *=", is = "product +=")
    @Broken(in = "int moebiusOfProduct(", was = "CATALAN[size - 1] :", is = "CATALAN[size] :")
    @Broken(in = "Part interval(", was = "now.parts[a], now.parts[b]", is = "now.parts[a], now.parts[a]")
    static void signed() {
        pairs("signed(0, 1)", x -> x.signed(0, 1),
            (parts, a, b) -> where(parts.under[a][b], parts.moebius(a, b)));
    }

    @Sentence(promise = 19, words = "Counts the partitions C such that the partition of a slot is below C, and C is below the"
        + " partition of a slot")
    @Broken(in = "int sizeOfProduct(", was = "CATALAN[sizeFrom(x)]", is = "sizeFrom(x) > 0 ? sizeFrom(x) : 1")
    @Broken(in = "int sizeOfProduct(", was = "product *=", is = "product +=")
    @Broken(in = "Part interval(", was = "now.parts[a], now.parts[b]", is = "now.parts[b], now.parts[b]")
    static void between() {
        pairs("between(0, 1)", x -> x.between(0, 1),
            (parts, a, b) -> where(parts.under[a][b], parts.between(a, b)));
    }

    @Sentence(promise = 20, words = "Changes a number.")
    @Broken(in = "int changeNumber(", was = "now.numbers[n - 1] = v", is = "now.numbers[n - 1] = had")
    @Broken(in = "int changeNumber(", was = "now.numbers[n - 1] = v", is = "now.numbers[n - 1] += v")
    @Broken(in = "int changeNumber(", was = "now.numbers[n - 1] = v", is = "now.numbers[8 - n] = v")
    static void number() {
        UncrossedParts x = new UncrossedParts();
        int[] values = new int[9];
        for (int i = 0; i < 40; i++) {
            int n = 1 + i % 8;
            values[n] = i * 7 % 19 - 9;
            x.number(n, values[n]);
            for (int other = 1; other <= 8; other++) {
                Check.due("number(" + n + ", " + values[n] + "): x(" + other + ")", x.as(0, 0, other), values[other]);
            }
        }
    }

    @Sentence(promise = 22, words = "Appends a byte to the text.")
    @Broken(in = "void append(", was = "bytes[length] = c", is = "bytes[0] = c")
    @Broken(in = "void append(", was = "length++;", is = "length = length > 3 ? 4 : length + 1;")
    @Broken(in = "public int type(", was = "orders.append(c);", is = "orders.append(c == 32 ? 10 : c);")
    static void type() {
        UncrossedParts x = new UncrossedParts();
        String text = " x8 -7;n6;";
        int[] due = {-11, -12, -13, -14, -15, -16, 1, -18, -19, 2};
        for (int i = 0; i < text.length(); i++) {
            x.type(text.charAt(i));
            Check.due("'" + text.substring(0, i + 1) + "': told(3)", x.told(3), i + 1);
            Check.due("'" + text.substring(0, i + 1) + "': does()", x.does(), due[i]);
        }
        Check.due("x(8)", x.as(0, 0, 8), -7);
        Check.due("count(0)", x.count(0), 6);
    }

    @Sentence(promise = 24, words = "Carries out the orders of the text, one after the other.")
    @Broken(in = "public int does()", was = "board.carryOut(orders.letters[i], orders.values[i])",
        is = "board.carryOut(orders.letters[orders.found - 1 - i], orders.values[orders.found - 1 - i])")
    @Broken(in = "public int does()", was = "board.carryOut(orders.letters[i], orders.values[i])",
        is = "board.carryOut(orders.letters[0], orders.values[0])")
    @Broken(in = "public int does()", was = "i < orders.found", is = "i < orders.found - 1")
    @Broken(in = "int carryOut(", was = "return putTurned(v[0], v[1])", is = "return putComplement(v[0], v[1])")
    static void does() {
        UncrossedParts x = new UncrossedParts();
        String text = "n6;p0 0 3;t1 0;j2 0 1;k3 2;m4 3 1;u5 9;x3-4;x3 5;x4 3;";
        Check.due("does() of '" + text + "'", Edges.done(x, text), 10);
        UncrossedParts y = new UncrossedParts();
        y.points(6);
        y.puts(0, 0, 3);
        y.turns(1, 0);
        y.joins(2, 0, 1);
        y.complements(3, 2);
        y.meets(4, 3, 1);
        y.takes(5, 9);
        y.number(3, -4);
        y.number(3, 5);
        y.number(4, 3);
        String[] rows = {"012045", "012315", "002005", "011344", "012345"};
        for (int s = 0; s < rows.length; s++) {
            Edges.rows("does()", x, s, rows[s]);
        }
        for (int s = 0; s < 6; s++) {
            Check.due("of(" + s + ", 0)", x.of(s, 0), y.of(s, 0));
        }
        for (int n = 1; n <= 8; n++) {
            Check.due("x(" + n + ")", x.as(0, 0, n), y.as(0, 0, n));
        }
        Check.due("count(0)", x.count(0), 6);
    }

    @Sentence(promise = 25, words = "Undoes the latest call that can be undone:")
    @Broken(in = "public int back()", was = "past.stepBack();", is = "past.stepBack(); past.stepBack();")
    @Broken(in = "public int back()", was = "board.now.copy(past.prepared());", is = "")
    @Broken(in = "public int type(", was = "orders.append(c);", is = "orders.append(c); past.keep();")
    @Broken(in = "void prepare(", was = "ring[next].copy(now)", is = "ring[0].copy(now)")
    static void back() {
        UncrossedParts x = new UncrossedParts();
        x.puts(0, 0, 1);
        x.puts(0, 1, 2);
        x.number(2, 6);
        // Calls that can't be undone, and calls that fail, stand between.
        x.type('n');
        x.told(9);
        x.of(0, 0);
        x.takes(0, 14);
        x.back();
        Check.due("the number is undone", x.as(0, 0, 2), 0);
        Edges.rows("the partitions are as they were before it", x, 0, "0003");
        x.back();
        Edges.rows("the second union is undone", x, 0, "0023");
        x.points(7);
        x.back();
        Check.due("the latest call is another one now", x.count(0), 4);
        Edges.rows("the latest call is another one now", x, 0, "0023");
        x.back();
        Edges.rows("the first union is undone", x, 0, "0123");
    }

    @Sentence(promise = 26, words = "Returns a count.")
    @Broken(in = "int toldValue(", was = "return bads", is = "return nos")
    @Broken(in = "int toldValue(", was = "return nos", is = "return fulls")
    @Broken(in = "int toldValue(", was = "return fulls", is = "return bads")
    @Broken(in = "int toldValue(", was = "return orders.length", is = "return past.held")
    @Broken(in = "int toldValue(", was = "return past.held", is = "return orders.length")
    static void told() {
        UncrossedParts x = new UncrossedParts();
        for (int i = 0; i < 121; i++) {
            x.type('x');
        }
        x.evens();
        x.points(3);
        x.evens();
        x.mark(0, 1);
        x.of(0, 6);
        x.as(0, 3, 1);
        x.number(9, 9);
        x.number(8, 9);
        int[] due = {3, 2, 1, 120, 2};
        for (int what = 0; what < 5; what++) {
            Check.due("told(" + what + ")", x.told(what), due[what]);
        }
    }

    @Sentence(promise = 27, words = "Computes a checksum.")
    @Broken(in = "public long digest()", was = "2413", is = "2414")
    @Broken(in = "public long digest()", was = "h = digestKind(h, 0, 2)", is = "h = digestKind(h, 0, 1)")
    @Broken(in = "long digestSlot(", was = "h = 31 * h + part.low[x]", is = "h = 31 * h + part.next(x)")
    @Broken(in = "long digestKind(", was = "h = 31 * h + series.wanted[n]", is = "h = 31 * h + (int) series.wanted[n]")
    static void digest() {
        for (int n = 1; n <= POINTS; n++) {
            UncrossedParts x = Edges.at(n);
            Model model = new Model();
            model.changed('n', n, 0, 0);
            Check.due(n + " points: digest()", x.digest(), model.digest());
            for (int i = 1; i <= 8; i++) {
                x.number(i, 9 - i * i % 17);
                model.changed('x', i, 9 - i * i % 17, 0);
            }
            x.puts(2, 0, n - 1);
            model.changed('p', 2, 0, n - 1);
            x.complements(3, 2);
            model.changed('k', 3, 2, 0);
            x.told(7);
            model.told(7);
            x.type(';');
            model.type(';');
            Check.due(n + " points, with something of everything: digest()", x.digest(), model.digest());
        }
    }
}
