/** The boundary cases of promises 25 to 27, and of what is said of states, error codes and the number of calls. */
final class StateEdges {
    private StateEdges() {
    }

    @Sentence(words = "An object is used for at most 512 calls after it has been made; what later calls answer is free.")
    @Broken(in = "private int bad()", was = "bads++;", is = "bads = bads < 510 ? bads + 1 : bads;")
    @Broken(in = "private int no()", was = "nos++;", is = "nos = nos & 255; nos++;")
    static void calls() {
        UncrossedParts x = new UncrossedParts();
        for (int call = 1; call <= 511; call++) {
            x.told(-1);
        }
        Check.due("the 512th call: told(0)", x.told(0), 511);
        x = new UncrossedParts();
        for (int call = 1; call <= 511; call++) {
            x.back();
        }
        Check.due("the 512th call: told(1)", x.told(1), 511);
        x = new UncrossedParts();
        for (int call = 1; call <= 511; call++) {
            x.number(1 + call % 8, call % 10);
        }
        Check.due("the 512th call: number(8, 0)", x.number(8, 0), 101);
        x = new UncrossedParts();
        for (int call = 1; call <= 510; call++) {
            x.number(1, call % 10);
        }
        Check.due("the 511th call: back()", x.back(), 4);
        Check.due("the 512th call: as(0, 0, 1)", x.as(0, 0, 1), 9);
        // The answers are free from here on, but no call may throw.
        for (int call = 513; call <= 2000; call++) {
            x.points(1 + call % 8);
            x.takes(call % 6, call % 14);
            x.type("n8;".charAt(call % 3));
            x.does();
            x.back();
            x.digest();
        }
    }

    @Sentence(words = "The successful calls of points(), puts(), meets(), joins(), complements(), turns(), takes(),"
        + " number() and does() can be undone by back(), also if they change nothing")
    @Broken(in = "public int does()", was = "past.keep();", is = "")
    @Broken(in = "public int points(", was = "return", is = "return k == board.now.points ? board.changePoints(k) :")
    @Broken(in = "public int puts(", was = "return", is = "return x == y ? board.unite(s, x, y) :")
    @Broken(in = "public int meets(", was = "return", is = "return a == b ? board.putMeet(s, a, b) :")
    @Broken(in = "public int joins(", was = "return", is = "return a == b ? board.putJoin(s, a, b) :")
    @Broken(in = "public int complements(", was = "return", is = "return s == a ? board.putComplement(s, a) :")
    @Broken(in = "public int turns(", was = "return", is = "return s == a ? board.putTurned(s, a) :")
    @Broken(in = "public int takes(", was = "return", is = "return k == 0 ? board.putPlace(s, k) :")
    @Broken(in = "public int number(", was = "return", is = "return v == 0 ? board.changeNumber(n, v) :")
    @Broken(in = "public int clear()", was = "return had", is = "past.keep(); return had")
    @Broken(in = "public int type(", was = "orders.append(c);", is = "orders.append(c); past.keep();")
    @Broken(in = "private int bad()", was = "bads++;", is = "bads++; past.keep();")
    @Broken(in = "int settled(", was = "bads++;", is = "bads++; past.keep();")
    static void whatCanBeUndone() {
        UncrossedParts x = Edges.at(1);
        x.back();
        x.points(1);
        Edges.type(x, "x1 0;");
        Edges.Call[] all = {y -> y.points(1), y -> y.puts(0, 0, 0), y -> y.meets(0, 0, 0), y -> y.joins(0, 0, 0),
            y -> y.complements(0, 0), y -> y.turns(0, 0), y -> y.takes(0, 0), y -> y.number(1, 0), y -> y.does()};
        for (int i = 0; i < all.length; i++) {
            Check.holds("call " + i + " is successful", all[i].on(x) >= 0);
            Check.due("call " + i + ": told(4)", x.told(4), 2);
            Check.due("call " + i + ", then back()", x.back(), 1);
        }
        Edges.Call[] others = {y -> y.type(' '), y -> y.clear(), y -> y.does(), y -> y.told(-1), y -> y.points(0),
            y -> y.puts(0, 0, 1), y -> y.meets(0, 0, 6), y -> y.joins(0, 0, 6), y -> y.complements(0, 6),
            y -> y.turns(0, 6), y -> y.takes(0, 1), y -> y.number(1, 10), y -> y.of(0, 0), y -> y.row(0, 0),
            y -> y.below(0, 0), y -> y.count(0), y -> y.evens(), y -> y.covers(0, 0), y -> y.mark(0, 0),
            y -> y.chains(0, 0), y -> y.marked(0), y -> y.signed(0, 0), y -> y.between(0, 0), y -> y.as(0, 0, 1),
            y -> y.told(0), y -> y.digest()};
        for (int i = 0; i < others.length; i++) {
            others[i].on(x);
            Check.due("other call " + i + ": told(4)", x.told(4), 1);
        }
        Check.due("back()", x.back(), 0);
        Check.due("back() can't be undone", x.back(), -3);
    }

    @Sentence(words = "the latest 5 of them, the latest one first.")
    @Broken(in = "int MOST_UNDONE", was = "5", is = "4")
    @Broken(in = "int MOST_UNDONE", was = "5", is = "6")
    @Broken(in = "void stepBack()", was = "next > 0 ? next - 1 : MOST_UNDONE", is = "next > 1 ? next - 1 : MOST_UNDONE")
    @Broken(in = "void keep()", was = "held < MOST_UNDONE ? held + 1 : MOST_UNDONE",
        is = "held < MOST_UNDONE ? held + 1 : 1")
    static void latestFive() {
        for (int calls = 0; calls <= 8; calls++) {
            UncrossedParts x = new UncrossedParts();
            for (int v = 1; v <= calls; v++) {
                x.number(1, v);
                Check.due(v + " calls: told(4)", x.told(4), Math.min(v, 5));
            }
            int first = Math.max(0, calls - 5);
            for (int v = calls - 1; v >= first; v--) {
                Check.due(calls + " calls: back()", x.back(), v - first);
                Check.due(calls + " calls, then back(): x(1)", x.as(0, 0, 1), v);
            }
            Check.due(calls + " calls: one back() too many", x.back(), -3);
            Check.due(calls + " calls: x(1) stays", x.as(0, 0, 1), first);
        }
        // Undone calls make room for others, but what was forgotten does not come back.
        UncrossedParts x = new UncrossedParts();
        for (int v = 1; v <= 6; v++) {
            x.number(1, v);
        }
        x.back();
        x.back();
        x.number(1, 9);
        Check.due("six calls, two undone and one more: told(4)", x.told(4), 4);
        int[] due = {4, 3, 2, 1};
        for (int i = 0; i < 4; i++) {
            Check.due("back()", x.back(), 3 - i);
            Check.due("x(1)", x.as(0, 0, 1), due[i]);
        }
        Check.due("back()", x.back(), -3);
    }

    @Sentence(words = "The error codes are BAD (-2): an argument is out of range; NO (-3): the request is impossible, as"
        + " described; FULL (-4): there is no room.")
    @Broken(in = "public static final int NONE", was = "BAD = -2", is = "BAD = -5")
    @Broken(in = "public static final int NONE", was = "NO = -3", is = "NO = -5")
    @Broken(in = "public static final int NONE", was = "FULL = -4", is = "FULL = -5")
    static void errorCodes() {
        Check.due("BAD", UncrossedParts.BAD, -2);
        Check.due("NO", UncrossedParts.NO, -3);
        Check.due("FULL", UncrossedParts.FULL, -4);
        UncrossedParts x = new UncrossedParts();
        for (int i = 0; i < 120; i++) {
            x.type(0);
        }
        Check.due("out of range: told(5)", x.told(5), -2);
        Check.due("impossible: back()", x.back(), -3);
        Check.due("no room: type(0)", x.type(0), -4);
    }

    @Sentence(words = "If several error codes apply, the first one in this order is returned.")
    @Broken(in = "public int type(", was = "if (c < 0",
        is = "if (orders.length >= MOST_TEXT) { fulls++; return FULL; } if (c < 0")
    @Broken(in = "public int mark(", was = "if (!isSlot(a) ||", is = "if (a == b) { return no(); } if (!isSlot(a) ||")
    @Broken(in = "int intervalError(", was = "return bad()",
        is = "return isSlot(b) && board.part(b).rank() == 0 ? no() : bad()")
    static void firstErrorCode() {
        UncrossedParts x = new UncrossedParts();
        for (int i = 0; i < 120; i++) {
            x.type(0);
        }
        int[] all = {-1, 128, Edges.LOWEST, Edges.GREATEST};
        for (int c : all) {
            Check.due("a full text: type(" + c + ")", x.type(c), -2);
        }
        Check.due("told(2)", x.told(2), 0);
        x.takes(5, 0);
        Check.due("mark(6, 6)", x.mark(6, 6), -2);
        Check.due("mark(-1, 0)", x.mark(-1, 0), -2);
        Check.due("chains(6, 0)", x.chains(6, 0), -2);
        Check.due("chains(5, -1)", x.chains(5, -1), -2);
        Check.due("signed(6, 0)", x.signed(6, 0), -2);
        Check.due("signed(5, -1)", x.signed(5, -1), -2);
        Check.due("between(6, 0)", x.between(6, 0), -2);
        Check.due("between(5, -1)", x.between(5, -1), -2);
        Check.due("told(0)", x.told(0), 12);
        Check.due("told(1)", x.told(1), 0);
    }

    @Sentence(words = "A call that returns an error code, queries included, changes nothing, except that it is counted,"
        + " see told().")
    @Broken(in = "private int bad()", was = "bads++;", is = "")
    @Broken(in = "private int no()", was = "nos++;", is = "")
    @Broken(in = "int settled(", was = "bads++;", is = "")
    @Broken(in = "private int no()", was = "nos++;", is = "nos++; orders.length = 0;")
    @Broken(in = "private int bad()", was = "bads++;", is = "bads++; past.held = past.held > 0 ? 1 : 0;")
    @Broken(in = "int intervalError(", was = "return board", is = "board.now.numbers[7] = 0; return board")
    @Broken(in = "void prepare(", was = "ring[next].copy(now);",
        is = "ring[next].copy(now); ring[next < MOST_UNDONE ? next + 1 : 0].copy(now);")
    static void refusedCalls() {
        Edges.Call[] bad = {x -> x.points(0), x -> x.points(9), x -> x.puts(6, 0, 0), x -> x.puts(0, 8, 0),
            x -> x.puts(0, 0, -1), x -> x.meets(-1, 0, 0), x -> x.joins(0, 6, 0), x -> x.complements(0, 6),
            x -> x.turns(6, 0), x -> x.takes(0, 1430), x -> x.of(0, 6), x -> x.row(0, 8), x -> x.below(0, 6),
            x -> x.count(10), x -> x.covers(0, -1), x -> x.mark(6, 0), x -> x.chains(0, -1), x -> x.marked(8),
            x -> x.signed(6, 0), x -> x.between(0, 6), x -> x.number(0, 0), x -> x.type(128), x -> x.told(5)};
        for (int i = 0; i < bad.length; i++) {
            Edges.refused("bad call " + i, 8, -2, bad[i]);
        }
        Edges.Call[] no = {x -> x.mark(0, 0), x -> x.chains(5, 0), x -> x.signed(5, 0), x -> x.between(5, 0)};
        for (int i = 0; i < no.length; i++) {
            Edges.refused("impossible call " + i, 8, -3, no[i]);
        }
        Edges.refused("evens()", 7, -3, x -> x.evens());
        Edges.refused("as(0, 0, 0)", 8, Edges.BAD_LONG, -2, x -> x.as(0, 0, 0));
    }

    @Sentence(words = "In does() nothing is counted.")
    @Broken(in = "public int does()", was = "return -10 - fault", is = "bads++; return -10 - fault")
    @Broken(in = "public int does()", was = "return -1000 - i", is = "bads++; return -1000 - i")
    @Broken(in = "public int does()", was = "return -1000 - i", is = "nos++; return -1000 - i")
    static void nothingCounted() {
        String[] all = {"", "   ", "n", "n9", "n0;", "n9;", "p6 0 0;", "p0 4 0;", "p0 0 4;", "m6 0 0;", "j0 0 6;", "k0 6;",
            "t6 0;", "u0 14;", "x0 0;", "x9 0;", "x1 10;", "x1-10;", "n1;x1 10;", "n1;!"};
        UncrossedParts x = new UncrossedParts();
        for (String text : all) {
            Check.holds("does() of '" + text + "' fails", Edges.done(x, text) <= -10);
            for (int what = 0; what < 3; what++) {
                Check.due("does() of '" + text + "': told(" + what + ")", x.told(what), 0);
            }
            Check.due("does() of '" + text + "': told(4)", x.told(4), 0);
        }
    }

    @Sentence(words = "NONE (-1) is not an error code; it means that there is none, and it is returned only if no error"
        + " code applies.")
    @Broken(in = "public static final int NONE", was = "NONE = -1", is = "NONE = -5")
    @Broken(in = "public int covers(", was = "return board",
        is = "bads += board.lattice.coverOf(board.part(s), i) == NONE ? 1 : 0; return board")
    @Broken(in = "public int covers(", was = "return bad()", is = "return i > 28 ? NONE : bad()")
    @Broken(in = "public int covers(", was = "if (",
        is = "if (isSlot(s) && board.part(s).rank() == 3) { return NONE; } if (")
    static void none() {
        Check.due("NONE", UncrossedParts.NONE, -1);
        UncrossedParts x = new UncrossedParts();
        x.takes(5, 0);
        Check.due("covers(5, 0)", x.covers(5, 0), -1);
        Check.due("covers(0, 6)", x.covers(0, 6), -1);
        for (int what = 0; what < 3; what++) {
            Check.due("told(" + what + ")", x.told(what), 0);
        }
        Check.due("covers(6, 99)", x.covers(6, 99), -2);
        Check.due("covers(-1, 99)", x.covers(-1, 99), -2);
        Check.due("covers(5, -1)", x.covers(5, -1), -2);
        Check.due("told(0)", x.told(0), 3);
    }

    @Sentence(promise = 25, words = "N, the slots and the numbers are as they were before it.")
    @Broken(in = "void copy(State other)", was = "points = other.points;", is = "")
    @Broken(in = "void copy(State other)", was = "int s = 0", is = "int s = 1")
    @Broken(in = "void copy(State other)", was = "s < SLOTS", is = "s < SLOTS - 1")
    @Broken(in = "void copy(State other)", was = "int i = 0", is = "int i = 1")
    @Broken(in = "void copy(State other)", was = "i < NUMBERS", is = "i < NUMBERS - 1")
    @Broken(in = "void copy(Part other)", was = "x < MOST_POINTS", is = "x < MOST_POINTS - 1")
    @Broken(in = "public int back()", was = "past.stepBack();", is = "past.stepBack(); orders.length = 0;")
    @Broken(in = "public int back()", was = "past.stepBack();", is = "past.stepBack(); bads = 0;")
    static void backBrings() {
        UncrossedParts x = Edges.at(8);
        x.told(-1);
        x.number(1, -9);
        x.number(8, 9);
        x.takes(0, 0);
        x.takes(5, 1);
        Edges.type(x, "n1;p0 0 0;x1 1;x8 1;u5 0;");
        Check.due("does()", x.does(), 5);
        Check.due("back()", x.back(), 4);
        Check.due("count(0)", x.count(0), 8);
        Edges.rows("slot 0", x, 0, "00000000");
        Edges.rows("slot 3", x, 3, "01234567");
        Edges.rows("slot 5", x, 5, "00000007");
        Check.due("x(1)", x.as(0, 0, 1), -9);
        Check.due("x(8)", x.as(0, 0, 8), 9);
        Check.due("the text stays", x.told(3), 25);
        Check.due("the counts stay", x.told(0), 1);
        Check.due("back()", x.back(), 3);
        Edges.rows("slot 5", x, 5, "01234567");
        Check.due("back()", x.back(), 2);
        Edges.rows("slot 0", x, 0, "01234567");
        Check.due("back()", x.back(), 1);
        Check.due("x(8)", x.as(0, 0, 8), 0);
        Check.due("back()", x.back(), 0);
        Check.due("x(1)", x.as(0, 0, 1), 0);
        Check.due("count(0)", x.count(0), 8);
    }

    @Sentence(promise = 25, words = "Returns the number of calls that can still be undone")
    @Broken(in = "public int back()", was = "return past.held", is = "return past.held + 1")
    @Broken(in = "public int back()", was = "return past.held", is = "return past.held > 0 ? past.held : NO")
    static void backReturns() {
        UncrossedParts x = Edges.at(8);
        Check.due("the only one", x.back(), 0);
        for (int i = 0; i < 5; i++) {
            x.turns(0, 0);
        }
        for (int i = 4; i >= 0; i--) {
            Check.due("back()", x.back(), i);
            Check.due("told(4)", x.told(4), i);
        }
        Check.due("told(1)", x.told(1), 0);
    }

    @Sentence(promise = 25, words = "NO if there is none")
    @Broken(in = "public int back()", was = "return no()", is = "return bad()")
    @Broken(in = "public int back()", was = "return no()", is = "return NO")
    @Broken(in = "public int back()", was = "return no()", is = "return 0")
    @Broken(in = "public int back()", was = "return no()", is = "board.now.numbers[0] = 0; return no()")
    static void backNo() {
        UncrossedParts x = new UncrossedParts();
        Check.due("a new object: back()", x.back(), -3);
        Check.due("a new object: back() again", x.back(), -3);
        Check.due("told(1)", x.told(1), 2);
        x.points(9);
        x.type('n');
        x.does();
        Check.due("behind calls that are refused: back()", x.back(), -3);
        for (int v = 1; v <= 6; v++) {
            x.number(1, v);
        }
        for (int i = 0; i < 5; i++) {
            x.back();
        }
        Check.due("the sixth one is forgotten: back()", x.back(), -3);
        Check.due("x(1)", x.as(0, 0, 1), 1);
        Check.due("count(0)", x.count(0), 4);
        Check.due("the text stays", x.told(3), 1);
        Check.due("told(4)", x.told(4), 0);
        Check.due("told(1)", x.told(1), 4);
        x.number(1, 7);
        Check.due("a call behind it can be undone", x.back(), 0);
        Check.due("x(1)", x.as(0, 0, 1), 1);
    }

    @Sentence(promise = 26, words = "what: 0 for the number of calls that have returned BAD, 1 for those that have"
        + " returned NO, 2 for those that have returned FULL, 3 for the length of the text, 4 for the number of calls that"
        + " can be undone")
    @Broken(in = "public int told(", was = "what < 0", is = "what < 1")
    @Broken(in = "public int told(", was = "what < 0", is = "what < -1")
    @Broken(in = "public int told(", was = "what >= TOLDS", is = "what >= TOLDS - 1")
    @Broken(in = "public int told(", was = "what >= TOLDS", is = "what > TOLDS")
    @Broken(in = "int toldValue(", was = "return nos", is = "return fulls")
    @Broken(in = "int toldValue(", was = "return fulls", is = "return nos")
    static void toldWhat() {
        Edges.range("told", 4, 0, 4, (x, what) -> x.told(what));
        UncrossedParts x = new UncrossedParts();
        for (int i = 0; i < 123; i++) {
            x.type(' ');
        }
        x.back();
        x.back();
        x.told(-1);
        for (int i = 0; i < 6; i++) {
            x.turns(0, 0);
        }
        int[] due = {1, 2, 3, 120, 5};
        for (int what = 0; what < 5; what++) {
            Check.due("told(" + what + ")", x.told(what), due[what]);
        }
    }

    @Sentence(promise = 26, words = "Returns the count")
    @Broken(in = "int toldValue(", was = "return bads", is = "return bads > 9 ? 9 : bads")
    @Broken(in = "int toldValue(", was = "return past.held", is = "return past.held - 1")
    @Broken(in = "int toldValue(", was = "return orders.length", is = "return orders.length - 1")
    static void toldReturns() {
        UncrossedParts x = new UncrossedParts();
        for (int what = 0; what < 5; what++) {
            Check.due("new: told(" + what + ")", x.told(what), 0);
        }
        for (int i = 1; i <= 20; i++) {
            x.told(5);
            Check.due("told(0)", x.told(0), i);
            x.back();
            Check.due("told(1)", x.told(1), i);
            Check.due("told(2)", x.told(2), 0);
            x.type(i);
            Check.due("told(3)", x.told(3), i);
        }
        for (int i = 1; i <= 6; i++) {
            x.points(i);
            Check.due("told(4)", x.told(4), Math.min(i, 5));
        }
    }

    @Sentence(promise = 26, words = "BAD if what is not 0 to 4")
    @Broken(in = "public int told(", was = "return bad()", is = "return no()")
    @Broken(in = "public int told(", was = "return bad()", is = "return BAD")
    @Broken(in = "public int told(", was = "what < 0", is = "what == -1")
    @Broken(in = "public int told(", was = "what >= TOLDS", is = "what == 5")
    static void toldBad() {
        Edges.bad("told", 1, 0, 4, (x, what) -> x.told(what));
        Edges.bad("told", 8, 0, 4, (x, what) -> x.told(what));
    }

    /** The checksum as the document tells it, from the answers of the other calls. */
    private static long checksum(UncrossedParts x) {
        long h = 2413;
        for (int what = 0; what < 5; what++) {
            h = 31 * h + x.told(what);
        }
        for (int what = 0; what < 10; what++) {
            h = 31 * h + x.count(what);
        }
        int points = x.count(0);
        for (int s = 0; s < 6; s++) {
            for (int what = 0; what < 6; what++) {
                h = 31 * h + x.of(s, what);
            }
            for (int p = 0; p < points; p++) {
                h = 31 * h + x.row(s, p);
            }
        }
        int[][] kinds = {{0, 0}, {0, 1}, {0, 2}, {1, 0}, {2, 0}};
        for (int[] kind : kinds) {
            for (int n = 1; n <= 8; n++) {
                h = 31 * h + x.as(kind[0], kind[1], n);
            }
        }
        return h;
    }

    @Sentence(promise = 27, words = "It starts with h = 2413; for each of the following values, in this order, h becomes"
        + " 31 * h + value (with overflow)")
    @Broken(in = "public long digest()", was = "2413", is = "2414")
    @Broken(in = "public long digest()", was = "return digestKind(h, 2, 0)",
        is = "return digestKind(h, 2, 0) & Long.MAX_VALUE")
    @Broken(in = "long digestSlot(", was = "long h = start", is = "long h = start % 1000000007")
    @Broken(in = "public long digest()", was = "h = 31 * h + board.amount", is = "h = 30 * h + board.amount")
    static void digestOverflows() {
        int negative = 0;
        for (int v = -9; v <= 9; v++) {
            UncrossedParts x = new UncrossedParts();
            x.number(8, v);
            long h = x.digest();
            Check.due("x(8) = " + v + ": digest()", h, checksum(x));
            negative += h < 0 ? 1 : 0;
        }
        Check.holds("some are negative and some are not", negative > 0 && negative < 19);
    }

    @Sentence(promise = 27, words = "told(0) to told(4); count(0) to count(9); for each slot, of(s, 0) to of(s, 5) and then"
        + " row(s, 0) to row(s, N - 1); x(1) to x(8); as(0, 1, n), as(0, 2, n), as(1, 0, n) and as(2, 0, n), each for n from"
        + " 1 to 8.")
    @Broken(in = "public long digest()", was = "what < TOLDS", is = "what < TOLDS - 1")
    @Broken(in = "public long digest()", was = "what < COUNTS", is = "what < COUNTS - 1")
    @Broken(in = "public long digest()", was = "s < SLOTS", is = "s < SLOTS - 1")
    @Broken(in = "public long digest()", was = "i < NUMBERS", is = "i < NUMBERS - 1")
    @Broken(in = "public long digest()", was = "digestKind(h, 0, 2)", is = "digestKind(h, 2, 0)")
    @Broken(in = "long digestSlot(", was = "what < PROPERTIES", is = "what < PROPERTIES - 1")
    @Broken(in = "long digestSlot(", was = "x < part.points", is = "x < MOST_POINTS")
    @Broken(in = "long digestSlot(", was = "x < part.points", is = "x < part.points - 1")
    @Broken(in = "long digestKind(", was = "n <= NUMBERS", is = "n < NUMBERS")
    @Broken(in = "long digestKind(", was = "int n = 1", is = "int n = 2")
    static void digestValues() {
        for (int n = 1; n <= 8; n++) {
            UncrossedParts x = Edges.full(n);
            Check.due(n + " points: digest()", x.digest(), checksum(x));
            x = Edges.at(n);
            Check.due(n + " points, nothing else: digest()", x.digest(), checksum(x));
        }
        UncrossedParts x = Edges.full(8);
        for (int i = 14; i <= 122; i++) {
            x.type('!');
        }
        Check.due("a full text: digest()", x.digest(), checksum(x));
    }

    @Sentence(promise = 27, words = "Returns the checksum")
    @Broken(in = "public long digest()", was = "return digestKind(h, 2, 0)", is = "return (int) digestKind(h, 2, 0)")
    @Broken(in = "public long digest()", was = "long h = 2413;", is = "long h = 2413; nos++;")
    static void digestReturns() {
        UncrossedParts x = Edges.full(8);
        UncrossedParts y = Edges.full(8);
        long h = x.digest();
        Check.due("digest()", h, checksum(x));
        Check.due("digest() again", x.digest(), h);
        Edges.same("behind digest()", x, y, 0);
    }
}
