import java.util.ArrayDeque;
import java.util.Deque;
import java.util.regex.Pattern;

/** The document once more, written for being read and not for being quick: the random runs are compared with it. */
final class Model {
    private static final int NONE = -1;
    private static final int BAD = -2;
    private static final int NO = -3;
    private static final int FULL = -4;
    private static final String D = "[0-9]{1,4}";
    private static final Pattern TEXT = Pattern.compile(" *((n *" + D + "|[pmj] *" + D + " +" + D + " +" + D
        + "|[ktu] *" + D + " +" + D + "|x *" + D + "( +" + D + "| *-" + D + ")) *; *)+");
    private static final String[] ENDS = {"", "n0;", "0;", "0 0;", "0 0 0;", ";", " 0;", " 0 0;"};

    private record State(int n, int[] slots, long[] x) {
        State copied() {
            return new State(n, slots.clone(), x.clone());
        }
    }

    private State now = fresh(4, new long[9]);
    private final Deque<State> past = new ArrayDeque<>();
    private final StringBuilder text = new StringBuilder();
    private final int[] errors = new int[3];

    private static State fresh(int n, long[] x) {
        int[] slots = new int[6];
        for (int s = 0; s < 6; s++) {
            slots[s] = AllParts.of(n).finest();
        }
        return new State(n, slots, x);
    }

    private AllParts parts() {
        return AllParts.of(now.n);
    }

    int points() {
        return now.n;
    }

    int partitions() {
        return parts().size();
    }

    private boolean slots(int... all) {
        for (int s : all) {
            if (s < 0 || s > 5) {
                return false;
            }
        }
        return true;
    }

    private boolean point(int x) {
        return x >= 0 && x < now.n;
    }

    private int error(int code) {
        errors[BAD - code]++;
        return code;
    }

    /** What the changing call of an order's letter answers; it changes the state if that is no error. */
    private int change(char letter, int a, int b, int c) {
        int[] t = now.slots;
        switch (letter) {
            case 'n': {
                if (a < 1 || a > 8) {
                    return BAD;
                }
                int had = now.n;
                now = fresh(a, now.x);
                return had;
            }
            case 'p':
                return !slots(a) || !point(b) || !point(c) ? BAD : put(a, parts().join(t[a], parts().pair(b, c)));
            case 'm':
                return !slots(a, b, c) ? BAD : put(a, parts().meet(t[b], t[c]));
            case 'j':
                return !slots(a, b, c) ? BAD : put(a, parts().join(t[b], t[c]));
            case 'k':
                return !slots(a, b) ? BAD : put(a, parts().complement(t[b]));
            case 't':
                if (!slots(a, b)) {
                    return BAD;
                }
                put(a, parts().turned(t[b]));
                return t[a];
            case 'u':
                return !slots(a) || b < 0 || b >= parts().size() ? BAD : put(a, b);
            default: {
                if (a < 1 || a > 8 || b < -9 || b > 9) {
                    return BAD;
                }
                int had = (int) now.x[a];
                now.x[a] = b;
                return had + 100;
            }
        }
    }

    private int put(int s, int place) {
        now.slots[s] = place;
        return parts().rank[place];
    }

    int changed(char letter, int a, int b, int c) {
        State before = now.copied();
        int answer = change(letter, a, b, c);
        if (answer < 0) {
            now = before;
            return error(answer);
        }
        remember(before);
        return answer;
    }

    private void remember(State before) {
        past.push(before);
        if (past.size() > 5) {
            past.removeLast();
        }
    }

    private long property(int s, int what) {
        int a = now.slots[s];
        int[] row = parts().rows.get(a);
        int singles = 0;
        int largest = 0;
        for (int x = 0; x < now.n; x++) {
            int size = AllParts.size(row, x);
            singles += size == 1 ? 1 : 0;
            largest = Math.max(largest, size);
        }
        int[] all = {a, parts().rank[a], singles, largest, parts().coverCount(a), parts().coveredCount(a)};
        return all[what];
    }

    long of(int s, int what) {
        return !slots(s) || what < 0 || what > 5 ? error(BAD) : property(s, what);
    }

    long row(int s, int x) {
        return !slots(s) || !point(x) ? error(BAD) : parts().rows.get(now.slots[s])[x];
    }

    long below(int a, int b) {
        return !slots(a, b) ? error(BAD) : parts().under[now.slots[a]][now.slots[b]] ? 1 : 0;
    }

    private long amount(int what) {
        return what == 0 ? now.n : what == 1 ? parts().size() : parts().ranked(what - 2);
    }

    long count(int what) {
        return what < 0 || what > 9 ? error(BAD) : amount(what);
    }

    long evens() {
        return now.n % 2 != 0 ? error(NO) : parts().evens();
    }

    long covers(int s, int i) {
        return !slots(s) || i < 0 ? error(BAD) : parts().cover(now.slots[s], i);
    }

    long mark(int a, int b) {
        if (!slots(a, b)) {
            return error(BAD);
        }
        int lower = now.slots[a];
        int upper = now.slots[b];
        return parts().covers(upper, lower) ? parts().label(lower, upper) : error(NO);
    }

    /** What 0 is for chains, 1 for signed and 2 for between. */
    long interval(int what, int a, int b) {
        if (!slots(a, b)) {
            return error(BAD);
        }
        int lower = now.slots[a];
        int upper = now.slots[b];
        if (!parts().under[lower][upper]) {
            return error(NO);
        }
        return what == 0 ? parts().chains(lower, upper)
            : what == 1 ? parts().moebius(lower, upper) : parts().between(lower, upper);
    }

    long marked(int v) {
        int[] counts = parts().labelCounts();
        if (v < 0 || v >= counts.length || (v + "").matches(".*[89].*")) {
            return error(BAD);
        }
        return counts[v];
    }

    long as(int j, int k, int n) {
        if (j < 0 || j > 2 || k < 0 || k > 2 || n < 1 || n > 8) {
            error(BAD);
            return -1000000000000000L;
        }
        return AllParts.convert(now.x, j, k)[n];
    }

    long type(int c) {
        if (c < 0 || c > 127) {
            return error(BAD);
        }
        if (text.length() == 120) {
            return error(FULL);
        }
        text.append((char) c);
        return text.length();
    }

    long clear() {
        int had = text.length();
        text.setLength(0);
        return had;
    }

    private static boolean canGoOn(String start) {
        for (String end : ENDS) {
            if (TEXT.matcher(start + end).matches()) {
                return true;
            }
        }
        return false;
    }

    /** The fault of a text; NONE if it has none. */
    static int fault(String text) {
        if (TEXT.matcher(text).matches()) {
            return NONE;
        }
        int place = 0;
        while (place < text.length() && canGoOn(text.substring(0, place + 1))) {
            place++;
        }
        return place;
    }

    long does() {
        int fault = fault(text.toString());
        if (fault != NONE) {
            return -10 - fault;
        }
        State before = now.copied();
        String[] orders = text.toString().split(";");
        int done = 0;
        for (String order : orders) {
            if (order.isBlank()) {
                continue;
            }
            String[] numbers = order.trim().substring(1).replace("-", " -").trim().split(" +");
            int[] v = new int[3];
            for (int i = 0; i < numbers.length; i++) {
                v[i] = Integer.parseInt(numbers[i]);
            }
            if (change(order.trim().charAt(0), v[0], v[1], v[2]) < 0) {
                now = before;
                return -1000 - done;
            }
            done++;
        }
        remember(before);
        return done;
    }

    long back() {
        if (past.isEmpty()) {
            return error(NO);
        }
        now = past.pop();
        return past.size();
    }

    private long toldValue(int what) {
        return what < 3 ? errors[what] : what == 3 ? text.length() : past.size();
    }

    long told(int what) {
        return what < 0 || what > 4 ? error(BAD) : toldValue(what);
    }

    long digest() {
        long h = 2413;
        for (int what = 0; what < 5; what++) {
            h = 31 * h + toldValue(what);
        }
        for (int what = 0; what < 10; what++) {
            h = 31 * h + amount(what);
        }
        for (int s = 0; s < 6; s++) {
            for (int what = 0; what < 6; what++) {
                h = 31 * h + property(s, what);
            }
            for (int low : parts().rows.get(now.slots[s])) {
                h = 31 * h + low;
            }
        }
        for (int n = 1; n <= 8; n++) {
            h = 31 * h + now.x[n];
        }
        int[][] kinds = {{0, 1}, {0, 2}, {1, 0}, {2, 0}};
        for (int[] kind : kinds) {
            long[] wanted = AllParts.convert(now.x, kind[0], kind[1]);
            for (int n = 1; n <= 8; n++) {
                h = 31 * h + wanted[n];
            }
        }
        return h;
    }
}
