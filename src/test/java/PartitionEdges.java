/** The boundary cases of promises 1 to 8, which change partitions. */
final class PartitionEdges {
    private PartitionEdges() {
    }

    @Sentence(promise = 1, words = "Creates an object with N = 4, an empty text and all counts 0.")
    @Broken(in = "int FIRST_POINTS", was = "4", is = "5")
    @Broken(in = "public UncrossedParts()", was = "bads = 0", is = "bads = 1")
    @Broken(in = "public UncrossedParts()", was = "nos = 0", is = "nos = 1")
    @Broken(in = "public UncrossedParts()", was = "fulls = 0", is = "fulls = 1")
    @Broken(in = " Orders() {", was = "length = 0", is = "length = 1")
    @Broken(in = " Past() {", was = "held = 0", is = "held = 1")
    static void newObject() {
        UncrossedParts x = new UncrossedParts();
        for (int what = 0; what < 5; what++) {
            Check.due("told(" + what + ")", x.told(what), 0);
        }
        Check.due("count(0)", x.count(0), 4);
        Check.due("row(0, 3)", x.row(0, 3), 3);
        Check.due("row(0, 4)", x.row(0, 4), -2);
        Check.due("does()", x.does(), -10);
        Check.due("clear()", x.clear(), 0);
        Check.due("back()", x.back(), -3);
        Check.due("another object: told(0)", new UncrossedParts().told(0), 0);
    }

    @Sentence(promise = 2, words = "Changes N.")
    @Broken(in = "int changePoints(", was = "now.points = k", is = "now.points = k < 8 ? k : 7")
    @Broken(in = "int changePoints(", was = "now.points = k", is = "now.points = k > 1 ? k : 2")
    static void pointsChangesN() {
        UncrossedParts x = new UncrossedParts();
        int[] all = {1, 8, 8, 1, 1};
        int[] partitions = {1, 1430, 1430, 1, 1};
        for (int i = 0; i < all.length; i++) {
            x.points(all[i]);
            Check.due("points(" + all[i] + "): count(0)", x.count(0), all[i]);
            Check.due("points(" + all[i] + "): count(1)", x.count(1), partitions[i]);
        }
    }

    @Sentence(promise = 2, words = "In all slots every point is a block by itself then")
    @Broken(in = "int changePoints(", was = "int s = 0", is = "int s = 1")
    @Broken(in = "int changePoints(", was = "s < SLOTS", is = "s < SLOTS - 1")
    @Broken(in = "int changePoints(", was = "s < SLOTS", is = "had != k && s < SLOTS")
    @Broken(in = "int changePoints(", was = "split(k)", is = "split(k > 1 ? k - 1 : k)")
    static void pointsSplits() {
        int[] all = {1, 4, 8};
        for (int k : all) {
            UncrossedParts x = Edges.at(4);
            for (int s = 0; s < 6; s++) {
                x.takes(s, 0);
            }
            x.points(k);
            for (int s = 0; s < 6; s++) {
                Edges.rows("points(" + k + ")", x, s, "01234567".substring(0, k));
                Check.due("points(" + k + "): of(" + s + ", 2)", x.of(s, 2), k);
            }
        }
    }

    @Sentence(promise = 2, words = "the numbers stay")
    @Broken(in = "int changePoints(", was = "now.points = k;", is = "now.points = k; now.numbers[0] = 0;")
    @Broken(in = "int changePoints(", was = "now.points = k;", is = "now.points = k; now.numbers[7] = 0;")
    static void pointsLeavesNumbers() {
        UncrossedParts x = new UncrossedParts();
        for (int n = 1; n <= 8; n++) {
            x.number(n, n - 9);
        }
        x.points(1);
        x.points(8);
        for (int n = 1; n <= 8; n++) {
            Check.due("points: x(" + n + ")", x.as(0, 0, n), n - 9);
        }
    }

    @Sentence(promise = 2, words = "Can be undone.")
    @Broken(in = "public int points(", was = "past.prepare(board.now);", is = "")
    @Broken(in = "public int points(", was = "settled(board.changePoints(k))", is = "board.changePoints(k)")
    @Broken(in = "void copy(State other)", was = "points = other.points", is = "points = points")
    static void pointsUndone() {
        Edges.undone("points(1)", x -> x.points(1));
        Edges.undone("points(8)", x -> x.points(8));
        Edges.undoneIdle("points(4)", 4, x -> x.points(4));
    }

    @Sentence(promise = 2, words = "k: the new N, 1 to 8")
    @Broken(in = "int changePoints(", was = "k < 1", is = "k < 2")
    @Broken(in = "int changePoints(", was = "k < 1", is = "k < 0")
    @Broken(in = "int changePoints(", was = "k > MOST_POINTS", is = "k >= MOST_POINTS")
    @Broken(in = "int changePoints(", was = "k > MOST_POINTS", is = "k > MOST_POINTS + 1")
    static void pointsRange() {
        Edges.range("points", 1, 1, 8, (x, k) -> x.points(k));
        Edges.range("points", 8, 1, 8, (x, k) -> x.points(k));
    }

    @Sentence(promise = 2, words = "Returns the N that it was")
    @Broken(in = "int changePoints(", was = "return had", is = "return k")
    @Broken(in = "int changePoints(", was = "return had", is = "return had < 8 ? had : 0")
    static void pointsReturns() {
        UncrossedParts x = new UncrossedParts();
        Check.due("points(1)", x.points(1), 4);
        Check.due("points(1) again", x.points(1), 1);
        Check.due("points(8)", x.points(8), 1);
        Check.due("points(8) again", x.points(8), 8);
        Check.due("points(4)", x.points(4), 8);
    }

    @Sentence(promise = 2, words = "BAD if k is out of range")
    @Broken(in = "int changePoints(", was = "k < 1", is = "k == 0")
    @Broken(in = "int changePoints(", was = "k > MOST_POINTS", is = "k == 9")
    @Broken(in = "int changePoints(", was = "return BAD", is = "return NO")
    @Broken(in = "int changePoints(", was = "return BAD", is = "return changePoints(now.points) - 2 - now.points")
    static void pointsBad() {
        Edges.bad("points", 8, 1, 8, (x, k) -> x.points(k));
    }

    @Sentence(promise = 3, words = "Replaces the partition of a slot by the join of it and the partition in which x and y"
        + " are in one block (if they are different) and every other point is a block by itself.")
    @Broken(in = "Part pairOf(", was = "pair.low[x] = y", is = "pair.low[x] = 0")
    @Broken(in = "int unite(", was = "pairOf(now.points, x, y)", is = "pairOf(now.points, x, x)")
    @Broken(in = "int unite(", was = "join(made, now.parts[s]", is = "join(made, now.parts[0]")
    static void putsReplaces() {
        UncrossedParts x = Edges.at(8);
        for (int p = 0; p < 8; p++) {
            x.puts(5, p, p);
        }
        Edges.rows("puts of a point and itself", x, 5, "01234567");
        x.puts(5, 7, 0);
        Edges.rows("puts(5, 7, 0)", x, 5, "01234560");
        x.puts(5, 0, 7);
        Edges.rows("puts of two that are in one block", x, 5, "01234560");
        x.puts(5, 7, 7);
        Edges.rows("puts(5, 7, 7)", x, 5, "01234560");
        x.puts(5, 6, 1);
        Edges.rows("puts inside a block", x, 5, "01234510");
        x.puts(5, 0, 3);
        Edges.rows("puts across a block", x, 5, "00204500");
        x = Edges.at(1);
        x.puts(5, 0, 0);
        Edges.rows("puts of the only point", x, 5, "0");
    }

    @Sentence(promise = 3, words = "Can be undone.")
    @Broken(in = "public int puts(", was = "past.prepare(board.now);", is = "")
    @Broken(in = "public int puts(", was = "settled(board.unite(s, x, y))", is = "board.unite(s, x, y)")
    @Broken(in = "public int puts(", was = "return", is = "return x == y ? board.unite(s, x, y) :")
    static void putsUndone() {
        Edges.undone("puts(0, 0, 7)", x -> x.puts(0, 0, 7));
        Edges.undone("puts(3, 0, 3)", x -> x.puts(3, 0, 3));
        Edges.undoneIdle("puts(0, 1, 1)", 8, x -> x.puts(0, 1, 1));
    }

    @Sentence(promise = 3, words = "s: the slot")
    @Broken(in = "int unite(", was = "!isSlot(s)", is = "s < 1 || s >= SLOTS")
    @Broken(in = "int unite(", was = "!isSlot(s)", is = "s < 0 || s >= SLOTS - 1")
    @Broken(in = "int unite(", was = "!isSlot(s)", is = "s < 0 || s > SLOTS")
    @Broken(in = "int unite(", was = "return putMade(s)", is = "return putMade(0)")
    static void putsSlot() {
        Edges.slots("puts", (x, s) -> x.puts(s, 0, 0));
        Edges.getsIt("puts", (x, s) -> x.puts(s, 0, 7));
    }

    @Sentence(promise = 3, words = "x: a point")
    @Broken(in = "int unite(", was = "!isPoint(x)", is = "x < 1 || x >= now.points")
    @Broken(in = "int unite(", was = "!isPoint(x)", is = "x < 0 || x >= now.points - 1")
    @Broken(in = "int unite(", was = "!isPoint(x)", is = "x < 0 || x > now.points && x < 9")
    @Broken(in = "int unite(", was = "!isPoint(x)", is = "x < 0 || x >= MOST_POINTS")
    static void putsFirstPoint() {
        Edges.points("puts", (x, p) -> x.puts(0, p, 0));
    }

    @Sentence(promise = 3, words = "y: a point, the same or another one")
    @Broken(in = "int unite(", was = "!isPoint(y)", is = "!isPoint(y) || x == y")
    @Broken(in = "int unite(", was = "!isPoint(y)", is = "y < 0 || y >= now.points - 1")
    @Broken(in = "int unite(", was = "!isPoint(y)", is = "y < 0 || y >= MOST_POINTS")
    @Broken(in = "int unite(", was = "!isPoint(y)", is = "y > -2 && !isPoint(y)")
    static void putsSecondPoint() {
        Edges.points("puts", (x, p) -> x.puts(0, 0, p));
        Edges.points("puts twice the same", (x, p) -> x.puts(0, p, p));
    }

    @Sentence(promise = 3, words = "Returns the rank of the new partition")
    @Broken(in = "int unite(", was = "return putMade(s)", is = "return lattice.placeOf(made) + 0 * putMade(s)")
    @Broken(in = "int unite(", was = "return putMade(s)", is = "return now.parts[s].rank() + 0 * putMade(s)")
    static void putsReturns() {
        Check.due("one point: puts(0, 0, 0)", Edges.at(1).puts(0, 0, 0), 0);
        UncrossedParts x = Edges.at(8);
        Check.due("puts(0, 7, 7)", x.puts(0, 7, 7), 0);
        for (int p = 1; p < 8; p++) {
            Check.due("puts(0, 0, " + p + ")", x.puts(0, 0, p), p);
        }
        Check.due("puts into the coarsest one", x.puts(0, 3, 5), 7);
    }

    @Sentence(promise = 3, words = "BAD if there is no such slot or point")
    @Broken(in = "int unite(", was = "return BAD", is = "return NO")
    @Broken(in = "int unite(", was = "!isSlot(s)", is = "!isSlot(s) && s < Integer.MAX_VALUE")
    @Broken(in = "int unite(", was = "return BAD", is = "return changeNumber(1, 0) > 0 ? BAD : BAD")
    @Broken(in = "int unite(", was = "!isPoint(x)", is = "false")
    @Broken(in = "int unite(", was = "!isPoint(y)", is = "false")
    static void putsBad() {
        Edges.bad("puts", 8, 0, 5, (x, s) -> x.puts(s, 0, 7));
        Edges.bad("puts", 7, 0, 6, (x, p) -> x.puts(0, p, 5));
        Edges.bad("puts", 7, 0, 6, (x, p) -> x.puts(0, 5, p));
        Edges.refused("puts(6, 8, -1)", 8, -2, x -> x.puts(6, 8, -1));
    }

    @Sentence(promise = 4, words = "The slots need not be different.")
    @Broken(in = "int putMeet(", was = "!isSlot(s)", is = "s == a || !isSlot(s)")
    @Broken(in = "int putMeet(", was = "!isSlot(s)", is = "s == b || !isSlot(s)")
    @Broken(in = "int putMeet(", was = "!isSlot(s)", is = "a == b || !isSlot(s)")
    @Broken(in = "int putMeet(", was = "lattice.meet(made,", is = "made.split(now.points); lattice.meet(now.parts[s],")
    static void meetsOfOneSlot() {
        UncrossedParts x = Edges.at(8);
        x.takes(1, 0);
        x.puts(2, 0, 7);
        x.puts(2, 3, 4);
        Check.due("meets(1, 1, 1)", x.meets(1, 1, 1), 7);
        Edges.rows("meets(1, 1, 1)", x, 1, "00000000");
        Check.due("meets(3, 2, 2)", x.meets(3, 2, 2), 2);
        Edges.rows("meets(3, 2, 2)", x, 3, "01233560");
        Check.due("meets(1, 1, 2)", x.meets(1, 1, 2), 2);
        Edges.rows("meets(1, 1, 2)", x, 1, "01233560");
        x.takes(4, 0);
        x.puts(3, 0, 3);
        Check.due("meets(4, 3, 4)", x.meets(4, 3, 4), 3);
        Edges.rows("meets(4, 3, 4)", x, 4, "01200560");
    }

    @Sentence(promise = 4, words = "Can be undone.")
    @Broken(in = "public int meets(", was = "past.prepare(board.now);", is = "")
    @Broken(in = "public int meets(", was = "settled(board.putMeet(s, a, b))", is = "board.putMeet(s, a, b)")
    @Broken(in = "public int meets(", was = "return", is = "return s == a && s == b ? board.putMeet(s, a, b) :")
    static void meetsUndone() {
        Edges.undone("meets(5, 0, 1)", x -> x.meets(5, 0, 1));
        Edges.undoneIdle("meets(0, 0, 0)", 8, x -> x.meets(0, 0, 0));
    }

    @Sentence(promise = 4, words = "s: the slot that gets it")
    @Broken(in = "int putMeet(", was = "!isSlot(s)", is = "s < 1 || s >= SLOTS")
    @Broken(in = "int putMeet(", was = "!isSlot(s)", is = "s < 0 || s >= SLOTS - 1")
    @Broken(in = "int putMeet(", was = "!isSlot(s)", is = "s < 0 || s > SLOTS")
    @Broken(in = "int putMeet(", was = "return putMade(s)", is = "return putMade(a)")
    static void meetsSlot() {
        Edges.slots("meets", (x, s) -> x.meets(s, 0, 5));
        Edges.getsIt("meets", (x, s) -> x.meets(s, s > 0 ? 0 : 5, s > 0 ? 0 : 5));
    }

    @Sentence(promise = 4, words = "a: a slot")
    @Broken(in = "int putMeet(", was = "!isSlot(a)", is = "a < 1 || a >= SLOTS")
    @Broken(in = "int putMeet(", was = "!isSlot(a)", is = "a < 0 || a >= SLOTS - 1")
    @Broken(in = "int putMeet(", was = "!isSlot(a)", is = "a < 0 || a > SLOTS")
    static void meetsFirst() {
        Edges.slots("meets", (x, a) -> x.meets(0, a, 5));
    }

    @Sentence(promise = 4, words = "b: a slot")
    @Broken(in = "int putMeet(", was = "!isSlot(b)", is = "b < 1 || b >= SLOTS")
    @Broken(in = "int putMeet(", was = "!isSlot(b)", is = "b < 0 || b >= SLOTS - 1")
    @Broken(in = "int putMeet(", was = "!isSlot(b)", is = "b < 0 || b > SLOTS")
    static void meetsSecond() {
        Edges.slots("meets", (x, b) -> x.meets(0, 5, b));
    }

    @Sentence(promise = 4, words = "Returns the rank of the new partition")
    @Broken(in = "int putMeet(", was = "return putMade(s)", is = "return now.parts[s].rank() + 0 * putMade(s)")
    @Broken(in = "int putMeet(", was = "return putMade(s)", is = "return lattice.placeOf(made) + 0 * putMade(s)")
    static void meetsReturns() {
        int[] all = {1, 2, 8};
        for (int n : all) {
            UncrossedParts x = Edges.at(n);
            x.takes(5, 0);
            Check.due(n + " points: meets(1, 5, 5)", x.meets(1, 5, 5), n - 1);
            Check.due(n + " points: meets(1, 0, 5)", x.meets(1, 0, 5), 0);
        }
    }

    @Sentence(promise = 4, words = "BAD if there is no such slot")
    @Broken(in = "int putMeet(", was = "return BAD", is = "return NO")
    @Broken(in = "int putMeet(", was = "!isSlot(s)", is = "!isSlot(s) && s < Integer.MAX_VALUE")
    @Broken(in = "int putMeet(", was = "!isSlot(a)", is = "!isSlot(a) && a < Integer.MAX_VALUE")
    @Broken(in = "int putMeet(", was = "!isSlot(b)", is = "!isSlot(b) && b < Integer.MAX_VALUE")
    @Broken(in = "int putMeet(", was = "return BAD", is = "return changeNumber(1, 0) > 0 ? BAD : BAD")
    static void meetsBad() {
        Edges.bad("meets", 8, 0, 5, (x, s) -> x.meets(s, 0, 0));
        Edges.bad("meets", 8, 0, 5, (x, a) -> x.meets(5, a, 0));
        Edges.bad("meets", 8, 0, 5, (x, b) -> x.meets(5, 0, b));
        Edges.refused("meets(6, -1, 6)", 8, -2, x -> x.meets(6, -1, 6));
    }

    @Sentence(promise = 5, words = "The slots need not be different.")
    @Broken(in = "int putJoin(", was = "!isSlot(s)", is = "s == a || !isSlot(s)")
    @Broken(in = "int putJoin(", was = "!isSlot(s)", is = "s == b || !isSlot(s)")
    @Broken(in = "int putJoin(", was = "!isSlot(s)", is = "a == b || !isSlot(s)")
    static void joinsOfOneSlot() {
        UncrossedParts x = Edges.at(8);
        x.puts(1, 0, 7);
        x.puts(2, 3, 6);
        Check.due("joins(5, 5, 5)", x.joins(5, 5, 5), 0);
        Edges.rows("joins(5, 5, 5)", x, 5, "01234567");
        Check.due("joins(3, 2, 2)", x.joins(3, 2, 2), 1);
        Edges.rows("joins(3, 2, 2)", x, 3, "01234537");
        Check.due("joins(1, 1, 2)", x.joins(1, 1, 2), 2);
        Edges.rows("joins(1, 1, 2)", x, 1, "01234530");
        x.puts(4, 3, 4);
        Check.due("joins(4, 1, 4)", x.joins(4, 1, 4), 3);
        Edges.rows("joins(4, 1, 4)", x, 4, "01233530");
    }

    @Sentence(promise = 5, words = "Can be undone.")
    @Broken(in = "public int joins(", was = "past.prepare(board.now);", is = "")
    @Broken(in = "public int joins(", was = "settled(board.putJoin(s, a, b))", is = "board.putJoin(s, a, b)")
    @Broken(in = "public int joins(", was = "return", is = "return s == a && s == b ? board.putJoin(s, a, b) :")
    static void joinsUndone() {
        Edges.undone("joins(0, 1, 5)", x -> x.joins(0, 1, 5));
        Edges.undoneIdle("joins(0, 0, 0)", 8, x -> x.joins(0, 0, 0));
    }

    @Sentence(promise = 5, words = "s: the slot that gets it")
    @Broken(in = "int putJoin(", was = "!isSlot(s)", is = "s < 1 || s >= SLOTS")
    @Broken(in = "int putJoin(", was = "!isSlot(s)", is = "s < 0 || s >= SLOTS - 1")
    @Broken(in = "int putJoin(", was = "!isSlot(s)", is = "s < 0 || s > SLOTS")
    @Broken(in = "int putJoin(", was = "return putMade(s)", is = "return putMade(a)")
    static void joinsSlot() {
        Edges.slots("joins", (x, s) -> x.joins(s, 0, 5));
        Edges.getsIt("joins", (x, s) -> x.joins(s, s > 0 ? 0 : 5, s > 0 ? 0 : 5));
    }

    @Sentence(promise = 5, words = "a: a slot")
    @Broken(in = "int putJoin(", was = "!isSlot(a)", is = "a < 1 || a >= SLOTS")
    @Broken(in = "int putJoin(", was = "!isSlot(a)", is = "a < 0 || a >= SLOTS - 1")
    @Broken(in = "int putJoin(", was = "!isSlot(a)", is = "a < 0 || a > SLOTS")
    static void joinsFirst() {
        Edges.slots("joins", (x, a) -> x.joins(0, a, 5));
    }

    @Sentence(promise = 5, words = "b: a slot")
    @Broken(in = "int putJoin(", was = "!isSlot(b)", is = "b < 1 || b >= SLOTS")
    @Broken(in = "int putJoin(", was = "!isSlot(b)", is = "b < 0 || b >= SLOTS - 1")
    @Broken(in = "int putJoin(", was = "!isSlot(b)", is = "b < 0 || b > SLOTS")
    static void joinsSecond() {
        Edges.slots("joins", (x, b) -> x.joins(0, 5, b));
    }

    @Sentence(promise = 5, words = "Returns the rank of the new partition")
    @Broken(in = "int putJoin(", was = "return putMade(s)", is = "return now.parts[s].rank() + 0 * putMade(s)")
    @Broken(in = "int putJoin(", was = "return putMade(s)", is = "return lattice.placeOf(made) + 0 * putMade(s)")
    static void joinsReturns() {
        int[] all = {1, 2, 8};
        for (int n : all) {
            UncrossedParts x = Edges.at(n);
            x.takes(5, 0);
            Check.due(n + " points: joins(1, 0, 0)", x.joins(1, 0, 0), 0);
            Check.due(n + " points: joins(1, 0, 5)", x.joins(1, 0, 5), n - 1);
        }
    }

    @Sentence(promise = 5, words = "BAD if there is no such slot")
    @Broken(in = "int putJoin(", was = "return BAD", is = "return NO")
    @Broken(in = "int putJoin(", was = "!isSlot(s)", is = "!isSlot(s) && s < Integer.MAX_VALUE")
    @Broken(in = "int putJoin(", was = "!isSlot(a)", is = "!isSlot(a) && a < Integer.MAX_VALUE")
    @Broken(in = "int putJoin(", was = "!isSlot(b)", is = "!isSlot(b) && b < Integer.MAX_VALUE")
    @Broken(in = "int putJoin(", was = "return BAD", is = "return changeNumber(1, 0) > 0 ? BAD : BAD")
    static void joinsBad() {
        Edges.bad("joins", 8, 0, 5, (x, s) -> x.joins(s, 5, 5));
        Edges.bad("joins", 8, 0, 5, (x, a) -> x.joins(0, a, 5));
        Edges.bad("joins", 8, 0, 5, (x, b) -> x.joins(0, 5, b));
        Edges.refused("joins(6, -1, 6)", 8, -2, x -> x.joins(6, -1, 6));
    }

    @Sentence(promise = 6, words = "Can be undone.")
    @Broken(in = "public int complements(", was = "past.prepare(board.now);", is = "")
    @Broken(in = "public int complements(", was = "settled(board.putComplement(s, a))",
        is = "board.putComplement(s, a)")
    @Broken(in = "public int complements(", was = "return", is = "return s == a ? board.putComplement(s, a) :")
    static void complementsUndone() {
        Edges.undone("complements(0, 0)", x -> x.complements(0, 0));
        Edges.undone("complements(1, 5)", x -> x.complements(1, 5));
        // The only point is its own complement.
        Edges.undoneIdle("complements(0, 0)", 1, x -> x.complements(0, 0));
    }

    @Sentence(promise = 6, words = "s: the slot that gets it")
    @Broken(in = "int putComplement(", was = "!isSlot(s)", is = "s < 1 || s >= SLOTS")
    @Broken(in = "int putComplement(", was = "!isSlot(s)", is = "s < 0 || s >= SLOTS - 1")
    @Broken(in = "int putComplement(", was = "!isSlot(s)", is = "s < 0 || s > SLOTS")
    @Broken(in = "int putComplement(", was = "return putMade(s)", is = "return putMade(a)")
    static void complementsSlot() {
        Edges.slots("complements", (x, s) -> x.complements(s, 0));
        Edges.getsIt("complements", (x, s) -> x.complements(s, s > 0 ? 0 : 5));
    }

    @Sentence(promise = 6, words = "a: a slot, the same or another one")
    @Broken(in = "int putComplement(", was = "!isSlot(a)", is = "a < 1 || a >= SLOTS")
    @Broken(in = "int putComplement(", was = "!isSlot(a)", is = "a < 0 || a >= SLOTS - 1")
    @Broken(in = "int putComplement(", was = "!isSlot(a)", is = "a < 0 || a > SLOTS")
    @Broken(in = "int putComplement(", was = "!isSlot(a)", is = "!isSlot(a) || a == s")
    static void complementsOf() {
        Edges.slots("complements", (x, a) -> x.complements(3, a));
        Edges.slots("complements of the same slot", (x, a) -> x.complements(a, a));
        UncrossedParts x = Edges.at(8);
        Check.due("complements(5, 5)", x.complements(5, 5), 7);
        Edges.rows("complements(5, 5)", x, 5, "00000000");
    }

    @Sentence(promise = 6, words = "Returns the rank of the new partition")
    @Broken(in = "int putComplement(", was = "return putMade(s)", is = "return now.parts[a].rank() + 0 * putMade(s)")
    @Broken(in = "int putComplement(", was = "return putMade(s)", is = "return lattice.placeOf(made) + 0 * putMade(s)")
    static void complementsReturns() {
        for (int n = 1; n <= 8; n++) {
            UncrossedParts x = Edges.at(n);
            Check.due(n + " points: complements of the finest one", x.complements(1, 0), n - 1);
            Check.due(n + " points: complements of the coarsest one", x.complements(1, 1), 0);
        }
    }

    @Sentence(promise = 6, words = "BAD if there is no such slot")
    @Broken(in = "int putComplement(", was = "return BAD", is = "return NO")
    @Broken(in = "int putComplement(", was = "!isSlot(s)", is = "!isSlot(s) && s < Integer.MAX_VALUE")
    @Broken(in = "int putComplement(", was = "!isSlot(a)", is = "!isSlot(a) && a < Integer.MAX_VALUE")
    @Broken(in = "int putComplement(", was = "return BAD", is = "return changeNumber(1, 0) > 0 ? BAD : BAD")
    static void complementsBad() {
        Edges.bad("complements", 8, 0, 5, (x, s) -> x.complements(s, 0));
        Edges.bad("complements", 8, 0, 5, (x, a) -> x.complements(5, a));
        Edges.refused("complements(-1, 6)", 8, -2, x -> x.complements(-1, 6));
    }

    @Sentence(promise = 7, words = "Can be undone.")
    @Broken(in = "public int turns(", was = "past.prepare(board.now);", is = "")
    @Broken(in = "public int turns(", was = "settled(board.putTurned(s, a))", is = "board.putTurned(s, a)")
    @Broken(in = "public int turns(", was = "return", is = "return s == a ? board.putTurned(s, a) :")
    static void turnsUndone() {
        Edges.undone("turns(1, 1)", x -> x.turns(1, 1));
        Edges.undone("turns(0, 5)", x -> x.turns(0, 5));
        Edges.undoneIdle("turns(0, 0)", 8, x -> x.turns(0, 0));
    }

    @Sentence(promise = 7, words = "s: the slot that gets it")
    @Broken(in = "int putTurned(", was = "!isSlot(s)", is = "s < 1 || s >= SLOTS")
    @Broken(in = "int putTurned(", was = "!isSlot(s)", is = "s < 0 || s >= SLOTS - 1")
    @Broken(in = "int putTurned(", was = "!isSlot(s)", is = "s < 0 || s > SLOTS")
    @Broken(in = "int putTurned(", was = "putMade(s)", is = "putMade(a)")
    static void turnsSlot() {
        Edges.slots("turns", (x, s) -> x.turns(s, 0));
        Edges.getsIt("turns", (x, s) -> x.turns(s, s > 0 ? 0 : 5));
    }

    @Sentence(promise = 7, words = "a: a slot, the same or another one")
    @Broken(in = "int putTurned(", was = "!isSlot(a)", is = "a < 1 || a >= SLOTS")
    @Broken(in = "int putTurned(", was = "!isSlot(a)", is = "a < 0 || a >= SLOTS - 1")
    @Broken(in = "int putTurned(", was = "!isSlot(a)", is = "a < 0 || a > SLOTS")
    @Broken(in = "int putTurned(", was = "!isSlot(a)", is = "!isSlot(a) || a == s")
    static void turnsOf() {
        Edges.slots("turns", (x, a) -> x.turns(3, a));
        Edges.slots("turns of the same slot", (x, a) -> x.turns(a, a));
        UncrossedParts x = Edges.at(8);
        x.puts(5, 6, 7);
        x.turns(5, 5);
        Edges.rows("turns(5, 5)", x, 5, "01234560");
    }

    @Sentence(promise = 7, words = "Returns the number of the new partition")
    @Broken(in = "int putTurned(", was = "return lattice.placeOf(made)", is = "return made.rank()")
    @Broken(in = "int putTurned(", was = "return lattice.placeOf(made)", is = "return lattice.placeOf(made) % 1429")
    static void turnsReturns() {
        Check.due("one point: turns(0, 0)", Edges.at(1).turns(0, 0), 0);
        UncrossedParts x = Edges.at(2);
        Check.due("two points, the finest one: turns(0, 0)", x.turns(0, 0), 1);
        x.puts(0, 0, 1);
        Check.due("two points, the coarsest one: turns(0, 0)", x.turns(0, 0), 0);
        x = Edges.at(8);
        Check.due("eight points, the finest one: turns(0, 0)", x.turns(0, 0), 1429);
        x.takes(0, 0);
        Check.due("eight points, the coarsest one: turns(0, 0)", x.turns(0, 0), 0);
    }

    @Sentence(promise = 7, words = "BAD if there is no such slot")
    @Broken(in = "int putTurned(", was = "return BAD", is = "return NO")
    @Broken(in = "int putTurned(", was = "!isSlot(s)", is = "!isSlot(s) && s < Integer.MAX_VALUE")
    @Broken(in = "int putTurned(", was = "!isSlot(a)", is = "!isSlot(a) && a < Integer.MAX_VALUE")
    @Broken(in = "int putTurned(", was = "return BAD", is = "return changeNumber(1, 0) > 0 ? BAD : BAD")
    static void turnsBad() {
        Edges.bad("turns", 8, 0, 5, (x, s) -> x.turns(s, 1));
        Edges.bad("turns", 8, 0, 5, (x, a) -> x.turns(5, a));
        Edges.refused("turns(-1, 6)", 8, -2, x -> x.turns(-1, 6));
    }

    @Sentence(promise = 8, words = "Can be undone.")
    @Broken(in = "public int takes(", was = "past.prepare(board.now);", is = "")
    @Broken(in = "public int takes(", was = "settled(board.putPlace(s, k))", is = "board.putPlace(s, k)")
    @Broken(in = "public int takes(", was = "return", is = "return k == 1429 ? board.putPlace(s, k) :")
    static void takesUndone() {
        Edges.undone("takes(0, 0)", x -> x.takes(0, 0));
        Edges.undone("takes(5, 1429)", x -> x.takes(5, 1429));
        Edges.undoneIdle("takes(0, 1429)", 8, x -> x.takes(0, 1429));
        Edges.undoneIdle("takes(0, 0)", 1, x -> x.takes(0, 0));
    }

    @Sentence(promise = 8, words = "s: the slot that gets it")
    @Broken(in = "int putPlace(", was = "!isSlot(s)", is = "s < 1 || s >= SLOTS")
    @Broken(in = "int putPlace(", was = "!isSlot(s)", is = "s < 0 || s >= SLOTS - 1")
    @Broken(in = "int putPlace(", was = "!isSlot(s)", is = "s < 0 || s > SLOTS")
    @Broken(in = "int putPlace(", was = "return putMade(s)", is = "return putMade(0)")
    static void takesSlot() {
        Edges.slots("takes", (x, s) -> x.takes(s, 0));
        Edges.getsIt("takes", (x, s) -> x.takes(s, 1428));
    }

    @Sentence(promise = 8, words = "k: the number of the partition")
    @Broken(in = "int putPlace(", was = "k < 0", is = "k < 1")
    @Broken(in = "int putPlace(", was = "k < 0", is = "k < -1")
    @Broken(in = "int putPlace(", was = "k >= CATALAN", is = "k > CATALAN")
    @Broken(in = "int putPlace(", was = "k >= CATALAN", is = "k + 1 >= CATALAN")
    @Broken(in = "int putPlace(", was = "CATALAN[now.points]", is = "CATALAN[MOST_POINTS]")
    @Broken(in = "void takePlace(", was = "left >= ways", is = "left > ways")
    static void takesNumber() {
        int[] all = {1, 2, 5, 14, 42, 132, 429, 1430};
        for (int n = 1; n <= 8; n++) {
            Edges.range("takes", n, 0, all[n - 1] - 1, (x, k) -> x.takes(2, k));
            UncrossedParts x = Edges.at(n);
            x.takes(5, 0);
            Edges.rows(n + " points: takes(5, 0)", x, 5, "00000000".substring(0, n));
            x.takes(5, all[n - 1] - 1);
            Edges.rows(n + " points: takes of the last one", x, 5, "01234567".substring(0, n));
        }
        UncrossedParts x = Edges.at(8);
        x.takes(0, 1);
        Edges.rows("takes(0, 1)", x, 0, "00000007");
        x.takes(0, 1428);
        Edges.rows("takes(0, 1428)", x, 0, "01234566");
    }

    @Sentence(promise = 8, words = "Returns its rank")
    @Broken(in = "int putPlace(", was = "return putMade(s)", is = "return now.parts[s].rank() + 0 * putMade(s)")
    @Broken(in = "int putPlace(", was = "return putMade(s)", is = "return k + 0 * putMade(s)")
    static void takesReturns() {
        Check.due("one point: takes(0, 0)", Edges.at(1).takes(0, 0), 0);
        UncrossedParts x = Edges.at(8);
        Check.due("takes(0, 0)", x.takes(0, 0), 7);
        Check.due("takes(0, 1)", x.takes(0, 1), 6);
        Check.due("takes(0, 1429)", x.takes(0, 1429), 0);
        Check.due("takes(0, 1428)", x.takes(0, 1428), 1);
    }

    @Sentence(promise = 8, words = "BAD if there is no such slot or partition")
    @Broken(in = "int putPlace(", was = "return BAD", is = "return NO")
    @Broken(in = "int putPlace(", was = "!isSlot(s)", is = "!isSlot(s) && s < Integer.MAX_VALUE")
    @Broken(in = "int putPlace(", was = "k < 0", is = "k == -1")
    @Broken(in = "int putPlace(", was = "k >= CATALAN[now.points]", is = "k >= CATALAN[now.points] && k < 9999")
    @Broken(in = "int putPlace(", was = "return BAD", is = "return changeNumber(1, 0) > 0 ? BAD : BAD")
    static void takesBad() {
        Edges.bad("takes", 8, 0, 5, (x, s) -> x.takes(s, 7));
        Edges.bad("takes", 8, 0, 1429, (x, k) -> x.takes(1, k));
        Edges.bad("takes", 1, 0, 0, (x, k) -> x.takes(1, k));
        Edges.refused("takes(6, -1)", 8, -2, x -> x.takes(6, -1));
    }
}
