/** What the tests of the boundary cases share: objects to begin with, ranges, and what a refused call must leave alone. */
final class Edges {
    static final int LOWEST = Integer.MIN_VALUE;
    static final int GREATEST = Integer.MAX_VALUE;
    static final long BAD_LONG = -1000000000000000L;
    private static final int[] VALUES = {-9, 9, 1, -3, 5, 7, -8, 2};

    private Edges() {
    }

    /** A call of an object. */
    interface Call {
        long on(UncrossedParts x);
    }

    /** A call of an object with one argument, whatever the others are. */
    interface CallWith {
        long on(UncrossedParts x, int value);
    }

    static UncrossedParts at(int n) {
        UncrossedParts x = new UncrossedParts();
        x.points(n);
        return x;
    }

    /**
     * An object with something of everything: the finest partition in slot 0, the coarsest one in slot 5 and others
     * between them, numbers, a text that can be carried out, errors, and more calls than can be undone, no two of the
     * same kind among the latest ones.
     */
    static UncrossedParts full(int n) {
        UncrossedParts x = at(n);
        x.told(-1);
        x.mark(0, 0);
        type(x, "p1 0 0; x8-9;");
        for (int i = 1; i <= 8; i++) {
            x.number(i, VALUES[i - 1]);
        }
        x.takes(5, 0);
        x.puts(1, 0, n - 1);
        x.complements(2, 1);
        x.turns(3, 2);
        x.number(1, 3);
        x.joins(4, 1, 3);
        return x;
    }

    static void type(UncrossedParts x, String text) {
        for (int i = 0; i < text.length(); i++) {
            x.type(text.charAt(i));
        }
    }

    static int done(UncrossedParts x, String text) {
        x.clear();
        type(x, text);
        return x.does();
    }

    static void rows(String call, UncrossedParts x, int s, String row) {
        for (int p = 0; p < row.length(); p++) {
            Check.due(call + ": row(" + s + ", " + p + ")", x.row(s, p), row.charAt(p) - '0');
        }
    }

    /** Compares what can be undone: the partitions and numbers of two objects. */
    private static void state(String call, UncrossedParts x, UncrossedParts y) {
        Check.due(call + ": N", x.count(0), y.count(0));
        for (int s = 0; s < 6; s++) {
            Check.due(call + ": the partition of slot " + s, x.of(s, 0), y.of(s, 0));
        }
        for (int n = 1; n <= 8; n++) {
            Check.due(call + ": x(" + n + ")", x.as(0, 0, n), y.as(0, 0, n));
        }
    }

    /** Compares the states and the counts of two objects; x may have counted one error more, of the kind code. */
    private static void visible(String call, UncrossedParts x, UncrossedParts y, int code) {
        state(call, x, y);
        for (int what = 0; what < 5; what++) {
            int more = what < 3 && UncrossedParts.BAD - what == code ? 1 : 0;
            Check.due(call + ": told(" + what + ")", x.told(what), y.told(what) + more);
        }
    }

    /** Compares two objects in all that can be seen of them: first what can be undone, then what the text says. */
    static void same(String call, UncrossedParts x, UncrossedParts y, int code) {
        visible(call, x, y, code);
        for (int i = 1; i <= 6; i++) {
            String then = call + ", then back() " + i + " times";
            Check.due(then, x.back(), y.back());
            visible(then, x, y, code);
        }
        Check.due(call + ", then does()", x.does(), y.does());
        visible(call + ", then does()", x, y, code);
        Check.due(call + ", then clear()", x.clear(), y.clear());
    }

    /** The call answers an error, which is counted as code, and leaves all else as it was. */
    static void refused(String call, int n, long answer, int code, Call c) {
        UncrossedParts x = full(n);
        Check.due(call, c.on(x), answer);
        same("behind a refused " + call, x, full(n), code);
    }

    static void refused(String call, int n, int code, Call c) {
        refused(call, n, code, code, c);
    }

    private static void taken(String call, int n, int value, long refusal, CallWith c) {
        UncrossedParts x = full(n);
        int bads = x.told(0);
        long answer = c.on(x, value);
        Check.holds(call + "(.. " + value + " ..) of " + n + " points is not refused", answer != refusal);
        Check.due(call + "(.. " + value + " ..) of " + n + " points: told(0)", x.told(0), bads);
    }

    /** The first and the last value are allowed; the ones beyond them and the outermost ints are refused. */
    static void range(String call, int n, int first, int last, long refusal, CallWith c) {
        taken(call, n, first, refusal, c);
        taken(call, n, last, refusal, c);
        outside(call, n, first, last, refusal, c);
    }

    static void range(String call, int n, int first, int last, CallWith c) {
        range(call, n, first, last, UncrossedParts.BAD, c);
    }

    private static void outside(String call, int n, int first, int last, long refusal, CallWith c) {
        int[] all = {LOWEST, first - 1, last + 1, GREATEST};
        for (int value : all) {
            String name = call + "(.. " + value + " ..) of " + n + " points";
            refused(name, n, refusal, UncrossedParts.BAD, x -> c.on(x, value));
        }
    }

    static void slots(String call, CallWith c) {
        range(call, 1, 0, 5, c);
        range(call, 8, 0, 5, c);
    }

    static void points(String call, CallWith c) {
        range(call, 1, 0, 0, c);
        range(call, 4, 0, 3, c);
        range(call, 8, 0, 7, c);
    }

    /** All of the values outside a range are refused. */
    static void bad(String call, int n, int first, int last, CallWith c) {
        outside(call, n, first, last, UncrossedParts.BAD, c);
    }

    /** Only the slot that the call names is changed by it, whichever it is. */
    static void getsIt(String call, CallWith c) {
        for (int s = 0; s < 6; s++) {
            UncrossedParts x = full(8);
            UncrossedParts y = full(8);
            // A partition that no call of the tests puts there.
            x.takes(s, 77);
            c.on(x, s);
            for (int other = 0; other < 6; other++) {
                String name = call + " into slot " + s + ": of(" + other + ", 0)";
                if (other == s) {
                    Check.holds(name + " is new", x.of(other, 0) != 77);
                } else {
                    Check.due(name, x.of(other, 0), y.of(other, 0));
                }
            }
        }
    }

    /** The call can be undone, behind others that could be undone. */
    static void undone(String call, Call c) {
        UncrossedParts x = full(8);
        UncrossedParts y = full(8);
        Check.holds(call + " is done", c.on(x) >= 0);
        Check.due(call + ": told(4)", x.told(4), 5);
        Check.due(call + ", then back()", x.back(), 4);
        state(call + " undone", x, full(8));
        // The oldest call that could be undone is forgotten in both.
        y.number(1, 3);
        y.back();
        same(call + " undone", x, y, 0);
    }

    /** The call changes nothing and can be undone all the same. */
    static void undoneIdle(String call, int n, Call c) {
        UncrossedParts x = at(n);
        UncrossedParts y = at(n);
        Check.holds(call + " that changes nothing is done", c.on(x) >= 0);
        Check.due(call + " that changes nothing: told(4)", x.told(4), 2);
        Check.due(call + " that changes nothing, then back()", x.back(), 1);
        state(call + " that changes nothing, undone", x, at(n));
        same(call + " that changes nothing, undone", x, y, 0);
    }
}
