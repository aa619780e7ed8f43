/** The lattice of noncrossing partitions of points on a circle, as ../shared/DOC.md describes it. */
public final class UncrossedParts {
    public static final int NONE = -1, BAD = -2, NO = -3, FULL = -4;

    private static final long BAD_LONG = -1000000000000000L;
    private static final int SLOTS = 6;
    private static final int MOST_POINTS = 8;
    private static final int FIRST_POINTS = 4;
    private static final int NUMBERS = 8;
    private static final int KINDS = 3;
    private static final int MOST_VALUE = 9;
    private static final int MOST_LABEL = 7;
    private static final int MOST_TEXT = 120;
    private static final int MOST_UNDONE = 5;
    private static final int PROPERTIES = 6;
    private static final int COUNTS = 10;
    private static final int TOLDS = 5;

    // By the number of points: all partitions, and the chains from the finest one to the coarsest one.
    private static final int[] CATALAN = {1, 1, 2, 5, 14, 42, 132, 429, 1430};
    private static final int[] LONG_CHAINS = {1, 1, 1, 3, 16, 125, 1296, 16807, 262144};

    private final Board board;
    private final Past past;
    private final Orders orders;
    private final Series series;
    private int bads;
    private int nos;
    private int fulls;

    public UncrossedParts() {
        board = new Board();
        past = new Past();
        orders = new Orders();
        series = new Series();
        bads = 0;
        nos = 0;
        fulls = 0;
    }

    public int points(int k) {
        past.prepare(board.now);
        return settled(board.changePoints(k));
    }

    public int puts(int s, int x, int y) {
        past.prepare(board.now);
        return settled(board.unite(s, x, y));
    }

    public int meets(int s, int a, int b) {
        past.prepare(board.now);
        return settled(board.putMeet(s, a, b));
    }

    public int joins(int s, int a, int b) {
        past.prepare(board.now);
        return settled(board.putJoin(s, a, b));
    }

    public int complements(int s, int a) {
        past.prepare(board.now);
        return settled(board.putComplement(s, a));
    }

    public int turns(int s, int a) {
        past.prepare(board.now);
        return settled(board.putTurned(s, a));
    }

    public int takes(int s, int k) {
        past.prepare(board.now);
        return settled(board.putPlace(s, k));
    }

    public int of(int s, int what) {
        if (!isSlot(s) || what < 0 || what >= PROPERTIES) {
            return bad();
        }
        return board.property(s, what);
    }

    public int row(int s, int x) {
        if (!isSlot(s) || !board.isPoint(x)) {
            return bad();
        }
        return board.part(s).low[x];
    }

    public int below(int a, int b) {
        if (!isSlot(a) || !isSlot(b)) {
            return bad();
        }
        return board.part(a).isUnder(board.part(b)) ? 1 : 0;
    }

    public int count(int what) {
        if (what < 0 || what >= COUNTS) {
            return bad();
        }
        return board.amount(what);
    }

    public int evens() {
        int n = board.now.points;
        // What a half turn leaves as it is, is as many as the noncrossing partitions of type B.
        return n % 2 == 0 ? choose(n, n / 2) : no();
    }

    public int covers(int s, int i) {
        if (!isSlot(s) || i < 0) {
            return bad();
        }
        return board.lattice.coverOf(board.part(s), i);
    }

    public int mark(int a, int b) {
        if (!isSlot(a) || !isSlot(b)) {
            return bad();
        }
        Part lower = board.part(a);
        Part upper = board.part(b);
        if (!lower.isUnder(upper) || upper.rank() != lower.rank() + 1) {
            return no();
        }
        return lower.labelTo(upper);
    }

    public int chains(int a, int b) {
        int error = intervalError(a, b);
        return error == 0 ? board.interval(a, b).chainsOfProduct() : error;
    }

    public int marked(int v) {
        if (!isLabels(v)) {
            return bad();
        }
        return board.isParking(v) ? 1 : 0;
    }

    public int signed(int a, int b) {
        int error = intervalError(a, b);
        return error == 0 ? board.interval(a, b).moebiusOfProduct() : error;
    }

    public int between(int a, int b) {
        int error = intervalError(a, b);
        return error == 0 ? board.interval(a, b).sizeOfProduct() : error;
    }

    public int number(int n, int v) {
        past.prepare(board.now);
        return settled(board.changeNumber(n, v));
    }

    public long as(int j, int k, int n) {
        if (j < 0 || j >= KINDS || k < 0 || k >= KINDS || n < 1 || n > NUMBERS) {
            bads++;
            return BAD_LONG;
        }
        series.convert(board.now.numbers, j, k);
        return series.wanted[n];
    }

    public int type(int c) {
        if (c < 0 || c > 127) {
            return bad();
        }
        if (orders.length >= MOST_TEXT) {
            fulls++;
            return FULL;
        }
        orders.append(c);
        return orders.length;
    }

    public int clear() {
        int had = orders.length;
        orders.length = 0;
        return had;
    }

    public int does() {
        int fault = orders.fault();
        if (fault != NONE) {
            return -10 - fault;
        }
        past.prepare(board.now);
        for (int i = 0; i < orders.found; i++) {
            if (board.carryOut(orders.letters[i], orders.values[i]) < 0) {
                board.now.copy(past.prepared());
                return -1000 - i;
            }
        }
        past.keep();
        return orders.found;
    }

    public int back() {
        if (past.held == 0) {
            return no();
        }
        past.stepBack();
        board.now.copy(past.prepared());
        return past.held;
    }

    public int told(int what) {
        if (what < 0 || what >= TOLDS) {
            return bad();
        }
        return toldValue(what);
    }

    public long digest() {
        long h = 2413;
        for (int what = 0; what < TOLDS; what++) {
            h = 31 * h + toldValue(what);
        }
        for (int what = 0; what < COUNTS; what++) {
            h = 31 * h + board.amount(what);
        }
        for (int s = 0; s < SLOTS; s++) {
            h = digestSlot(h, s);
        }
        for (int i = 0; i < NUMBERS; i++) {
            h = 31 * h + board.now.numbers[i];
        }
        h = digestKind(h, 0, 1);
        h = digestKind(h, 0, 2);
        h = digestKind(h, 1, 0);
        return digestKind(h, 2, 0);
    }

    private long digestSlot(long start, int s) {
        long h = start;
        for (int what = 0; what < PROPERTIES; what++) {
            h = 31 * h + board.property(s, what);
        }
        Part part = board.part(s);
        for (int x = 0; x < part.points; x++) {
            h = 31 * h + part.low[x];
        }
        return h;
    }

    private long digestKind(long start, int j, int k) {
        long h = start;
        series.convert(board.now.numbers, j, k);
        for (int n = 1; n <= NUMBERS; n++) {
            h = 31 * h + series.wanted[n];
        }
        return h;
    }

    private int toldValue(int what) {
        switch (what) {
            case 0:
                return bads;
            case 1:
                return nos;
            case 2:
                return fulls;
            case 3:
                return orders.length;
            default:
                return past.held;
        }
    }

    /** Counts a change's error, or keeps the state from before the change, so that back() finds it. */
    private int settled(int answer) {
        if (answer == BAD) {
            bads++;
        } else {
            past.keep();
        }
        return answer;
    }

    private int bad() {
        bads++;
        return BAD;
    }

    private int no() {
        nos++;
        return NO;
    }

    /** The error code, already counted, of a query about an interval; 0 if there is none. */
    private int intervalError(int a, int b) {
        if (!isSlot(a) || !isSlot(b)) {
            return bad();
        }
        return board.part(a).isUnder(board.part(b)) ? 0 : no();
    }

    private boolean isLabels(int v) {
        if (v < 0) {
            return false;
        }
        int rest = v;
        for (int i = 1; i < board.now.points; i++) {
            if (rest % 10 > MOST_LABEL) {
                return false;
            }
            rest /= 10;
        }
        return rest == 0;
    }

    private static boolean isSlot(int s) {
        return s >= 0 && s < SLOTS;
    }

    private static int choose(int n, int k) {
        if (k < 0 || k > n) {
            return 0;
        }
        int ways = 1;
        for (int i = 1; i <= k; i++) {
            ways = ways * (n - k + i) / i;
        }
        return ways;
    }

    /** One noncrossing partition, held as its row. */
    static final class Part {
        int points;
        final int[] low;

        Part() {
            low = new int[MOST_POINTS];
            split(FIRST_POINTS);
        }

        void split(int n) {
            points = n;
            for (int x = 0; x < MOST_POINTS; x++) {
                low[x] = x;
            }
        }

        void copy(Part other) {
            points = other.points;
            for (int x = 0; x < MOST_POINTS; x++) {
                low[x] = other.low[x];
            }
        }

        boolean isLowest(int x) {
            return low[x] == x;
        }

        boolean areTogether(int x, int y) {
            return low[x] == low[y];
        }

        int rank() {
            int rank = 0;
            for (int x = 0; x < points; x++) {
                rank += isLowest(x) ? 0 : 1;
            }
            return rank;
        }

        /** The size of the block whose lowest point x is; 0 if x is not the lowest one of its block. */
        int sizeFrom(int x) {
            int size = 0;
            for (int y = x; y < points; y++) {
                size += low[y] == x ? 1 : 0;
            }
            return size;
        }

        /** The next greater point of the block of x, or its lowest one behind its greatest one. */
        int next(int x) {
            for (int y = x + 1; y < points; y++) {
                if (areTogether(x, y)) {
                    return y;
                }
            }
            return low[x];
        }

        /** The point whose next one is x. */
        int previous(int x) {
            for (int y = x - 1; y >= 0; y--) {
                if (areTogether(x, y)) {
                    return y;
                }
            }
            for (int y = points - 1; y > x; y--) {
                if (areTogether(x, y)) {
                    return y;
                }
            }
            return x;
        }

        boolean isUnder(Part upper) {
            for (int x = 0; x < points; x++) {
                if (!upper.areTogether(x, low[x])) {
                    return false;
                }
            }
            return true;
        }

        /** The label of the step to a partition that covers this one. */
        int labelTo(Part upper) {
            int second = 0;
            for (int x = 0; x < points; x++) {
                if (isLowest(x) && !upper.isLowest(x)) {
                    second = x;
                }
            }
            int first = upper.low[second];
            int label = first;
            for (int x = first; x < second; x++) {
                if (low[x] == first) {
                    label = x;
                }
            }
            return label;
        }

        int singles() {
            int singles = 0;
            for (int x = 0; x < points; x++) {
                singles += sizeFrom(x) == 1 ? 1 : 0;
            }
            return singles;
        }

        int largest() {
            int largest = 0;
            for (int x = 0; x < points; x++) {
                int size = sizeFrom(x);
                largest = size > largest ? size : largest;
            }
            return largest;
        }

        /** The pairs of points that are in one block, which is the number of ways to cut a block into two. */
        int pairs() {
            int pairs = 0;
            for (int x = 0; x < points; x++) {
                pairs += choose(sizeFrom(x), 2);
            }
            return pairs;
        }

        /** The chains through the product of the lattices of the blocks: the steps of the blocks are shuffled. */
        int chainsOfProduct() {
            int steps = 0;
            int chains = 1;
            for (int x = 0; x < points; x++) {
                if (isLowest(x)) {
                    int size = sizeFrom(x);
                    steps += size - 1;
                    chains *= choose(steps, size - 1) * LONG_CHAINS[size];
                }
            }
            return chains;
        }

        int moebiusOfProduct() {
            int product = 1;
            for (int x = 0; x < points; x++) {
                if (isLowest(x)) {
                    int size = sizeFrom(x);
                    product *= size % 2 == 1 ? CATALAN[size - 1] : -CATALAN[size - 1];
                }
            }
            return product;
        }

        int sizeOfProduct() {
            int product = 1;
            for (int x = 0; x < points; x++) {
                product *= CATALAN[sizeFrom(x)];
            }
            return product;
        }
    }

    /** What is done with partitions alone; it keeps its rows, so that no call makes new ones. */
    static final class Lattice {
        private final int[] step;
        private final int[] depths;
        private final int[] lows;
        private final int[][] ways;
        private final Part first;
        private final Part second;
        private final Part shared;
        private final Part pair;
        private final Part cover;

        Lattice() {
            step = new int[MOST_POINTS];
            depths = new int[MOST_POINTS];
            lows = new int[MOST_POINTS + 1];
            ways = new int[MOST_POINTS + 1][MOST_POINTS + 1];
            first = new Part();
            second = new Part();
            shared = new Part();
            pair = new Part();
            cover = new Part();
            countWays();
        }

        /**
         * ways[r][d] is the number of ways to place r more points when d blocks can still get one: a point goes to the
         * c-th of these blocks, counted from the lowest one, or to a new one, and then the blocks behind it are shut
         * off, since they would cross it. The row's numbers grow with c, so this is the rows' lexicographic order.
         */
        private void countWays() {
            for (int d = 0; d <= MOST_POINTS; d++) {
                ways[0][d] = 1;
            }
            for (int r = 1; r <= MOST_POINTS; r++) {
                for (int d = 0; d <= MOST_POINTS - r; d++) {
                    for (int c = 1; c <= d + 1; c++) {
                        ways[r][d] += ways[r - 1][c];
                    }
                }
            }
        }

        int placeOf(Part part) {
            int place = 0;
            int depth = 0;
            for (int x = 0; x < part.points; x++) {
                int chosen = part.isLowest(x) ? depth + 1 : depths[part.low[x]];
                for (int c = 1; c < chosen; c++) {
                    place += ways[part.points - 1 - x][c];
                }
                depths[x] = chosen;
                depth = chosen;
            }
            return place;
        }

        void takePlace(Part made, int n, int place) {
            int left = place;
            int depth = 0;
            made.split(n);
            for (int x = 0; x < n; x++) {
                int chosen = 1;
                for (int c = 1; c <= depth && left >= ways[n - 1 - x][c]; c++) {
                    left -= ways[n - 1 - x][c];
                    chosen = c + 1;
                }
                if (chosen > depth) {
                    lows[chosen] = x;
                }
                made.low[x] = lows[chosen];
                depth = chosen;
            }
        }

        void meet(Part made, Part a, Part b) {
            made.split(a.points);
            for (int x = 0; x < a.points; x++) {
                for (int y = x - 1; y >= 0; y--) {
                    if (a.areTogether(x, y) && b.areTogether(x, y)) {
                        made.low[x] = y;
                    }
                }
            }
        }

        /** The complement turns the order round, so the join has the meet of the complements as its complement. */
        void join(Part made, Part a, Part b) {
            complement(first, a);
            complement(second, b);
            meet(shared, first, second);
            uncomplement(made, shared);
        }

        /** The partition of n points whose blocks are points by themselves, but for that of x and y. */
        Part pairOf(int n, int x, int y) {
            pair.split(n);
            if (x < y) {
                pair.low[y] = x;
            } else {
                pair.low[x] = y;
            }
            return pair;
        }

        void complement(Part made, Part a) {
            for (int x = 0; x < a.points; x++) {
                step[x] = a.previous(after(x, a.points));
            }
            takeCycles(made, a.points);
        }

        /** From K(x) = y with P(y) = x + 1: P(y) is the point behind the one that K leads from to y. */
        private void uncomplement(Part made, Part complement) {
            for (int y = 0; y < complement.points; y++) {
                step[y] = after(complement.previous(y), complement.points);
            }
            takeCycles(made, complement.points);
        }

        /**
         * The complement of a inside of a partition above it. The interval of the two is the product of the lattices of
         * its blocks.
         */
        void complementInside(Part made, Part a, Part upper) {
            for (int x = 0; x < a.points; x++) {
                step[x] = a.previous(upper.next(x));
            }
            takeCycles(made, a.points);
        }

        void turn(Part made, Part a) {
            for (int x = 0; x < a.points; x++) {
                step[after(x, a.points)] = after(a.next(x), a.points);
            }
            takeCycles(made, a.points);
        }

        private static int after(int x, int n) {
            return x + 1 < n ? x + 1 : 0;
        }

        private void takeCycles(Part made, int n) {
            made.split(n);
            for (int x = 0; x < n; x++) {
                // A point that no lower one has led to is the lowest one of its cycle.
                if (made.isLowest(x)) {
                    int y = step[x];
                    for (int k = 1; k < n && y != x; k++) {
                        made.low[y] = x;
                        y = step[y];
                    }
                }
            }
        }

        int coversOf(Part part) {
            complement(first, part);
            return first.pairs();
        }

        /**
         * The number of the i-th partition that covers a. The row of a union differs from that of a first at the lowest
         * point of its second block, and there it is the lower, the lower the first block: so this order is theirs.
         */
        int coverOf(Part a, int i) {
            int seen = 0;
            for (int y = 1; y < a.points; y++) {
                for (int x = 0; x < y; x++) {
                    if (a.isLowest(x) && a.isLowest(y) && unites(a, x, y)) {
                        if (seen == i) {
                            return placeOf(cover);
                        }
                        seen++;
                    }
                }
            }
            return NONE;
        }

        /** Tells whether two blocks can be united without crossing another one: the join unites more if they can't. */
        private boolean unites(Part a, int x, int y) {
            join(cover, a, pairOf(a.points, x, y));
            return cover.rank() == a.rank() + 1;
        }
    }

    /** All that back() brings back. */
    static final class State {
        int points;
        final Part[] parts;
        final int[] numbers;

        State() {
            points = FIRST_POINTS;
            parts = new Part[SLOTS];
            for (int s = 0; s < SLOTS; s++) {
                parts[s] = new Part();
            }
            numbers = new int[NUMBERS];
        }

        void copy(State other) {
            points = other.points;
            for (int s = 0; s < SLOTS; s++) {
                parts[s].copy(other.parts[s]);
            }
            for (int i = 0; i < NUMBERS; i++) {
                numbers[i] = other.numbers[i];
            }
        }
    }

    /** The states that back() goes back to, in a ring, with one place more for the state that may become the next. */
    static final class Past {
        private final State[] ring;
        private int next;
        int held;

        Past() {
            ring = new State[MOST_UNDONE + 1];
            for (int i = 0; i <= MOST_UNDONE; i++) {
                ring[i] = new State();
            }
            next = 0;
            held = 0;
        }

        void prepare(State now) {
            ring[next].copy(now);
        }

        State prepared() {
            return ring[next];
        }

        void keep() {
            next = next < MOST_UNDONE ? next + 1 : 0;
            held = held < MOST_UNDONE ? held + 1 : MOST_UNDONE;
        }

        void stepBack() {
            next = next > 0 ? next - 1 : MOST_UNDONE;
            held--;
        }
    }

    /** The present state, and the changes to it: each answers BAD, and changes nothing, if it can't be made. */
    static final class Board {
        final State now;
        final Lattice lattice;
        private final Part made;

        Board() {
            now = new State();
            lattice = new Lattice();
            made = new Part();
        }

        boolean isPoint(int x) {
            return x >= 0 && x < now.points;
        }

        Part part(int s) {
            return now.parts[s];
        }

        int changePoints(int k) {
            if (k < 1 || k > MOST_POINTS) {
                return BAD;
            }
            int had = now.points;
            now.points = k;
            for (int s = 0; s < SLOTS; s++) {
                now.parts[s].split(k);
            }
            return had;
        }

        int unite(int s, int x, int y) {
            if (!isSlot(s) || !isPoint(x) || !isPoint(y)) {
                return BAD;
            }
            lattice.join(made, now.parts[s], lattice.pairOf(now.points, x, y));
            return putMade(s);
        }

        int putMeet(int s, int a, int b) {
            if (!isSlot(s) || !isSlot(a) || !isSlot(b)) {
                return BAD;
            }
            lattice.meet(made, now.parts[a], now.parts[b]);
            return putMade(s);
        }

        int putJoin(int s, int a, int b) {
            if (!isSlot(s) || !isSlot(a) || !isSlot(b)) {
                return BAD;
            }
            lattice.join(made, now.parts[a], now.parts[b]);
            return putMade(s);
        }

        int putComplement(int s, int a) {
            if (!isSlot(s) || !isSlot(a)) {
                return BAD;
            }
            lattice.complement(made, now.parts[a]);
            return putMade(s);
        }

        int putTurned(int s, int a) {
            if (!isSlot(s) || !isSlot(a)) {
                return BAD;
            }
            lattice.turn(made, now.parts[a]);
            putMade(s);
            return lattice.placeOf(made);
        }

        int putPlace(int s, int k) {
            if (!isSlot(s) || k < 0 || k >= CATALAN[now.points]) {
                return BAD;
            }
            lattice.takePlace(made, now.points, k);
            return putMade(s);
        }

        private int putMade(int s) {
            now.parts[s].copy(made);
            return made.rank();
        }

        int changeNumber(int n, int v) {
            if (n < 1 || n > NUMBERS || v < -MOST_VALUE || v > MOST_VALUE) {
                return BAD;
            }
            int had = now.numbers[n - 1];
            now.numbers[n - 1] = v;
            return had + 100;
        }

        /** Carries out an order of the text, whose numbers are the first ones of v. */
        int carryOut(int letter, int[] v) {
            switch (letter) {
                case 'n':
                    return changePoints(v[0]);
                case 'p':
                    return unite(v[0], v[1], v[2]);
                case 'm':
                    return putMeet(v[0], v[1], v[2]);
                case 'j':
                    return putJoin(v[0], v[1], v[2]);
                case 'k':
                    return putComplement(v[0], v[1]);
                case 't':
                    return putTurned(v[0], v[1]);
                case 'u':
                    return putPlace(v[0], v[1]);
                default:
                    return changeNumber(v[0], v[1]);
            }
        }

        int property(int s, int what) {
            Part part = now.parts[s];
            switch (what) {
                case 0:
                    return lattice.placeOf(part);
                case 1:
                    return part.rank();
                case 2:
                    return part.singles();
                case 3:
                    return part.largest();
                case 4:
                    return lattice.coversOf(part);
                default:
                    return part.pairs();
            }
        }

        int amount(int what) {
            if (what == 0) {
                return now.points;
            }
            return what == 1 ? CATALAN[now.points] : ranked(now.points, what - 2);
        }

        /** The partitions of n points with the rank k: a Narayana number, in its form without a division. */
        private static int ranked(int n, int k) {
            int inner = choose(n - 1, k);
            return inner * inner - choose(n - 1, k - 1) * choose(n - 1, k + 1);
        }

        Part interval(int a, int b) {
            lattice.complementInside(made, now.parts[a], now.parts[b]);
            return made;
        }

        /**
         * The labels of the chains from the finest partition to the coarsest one are the parking functions, each of
         * them once (Stanley): for each k up to N - 1, at least k labels are lower than k.
         */
        boolean isParking(int v) {
            for (int k = 1; k < now.points; k++) {
                int lower = 0;
                int rest = v;
                for (int i = 1; i < now.points; i++) {
                    lower += rest % 10 < k ? 1 : 0;
                    rest /= 10;
                }
                if (lower < k) {
                    return false;
                }
            }
            return true;
        }
    }

    /** The text and the orders that it has been read as. */
    static final class Orders {
        // The shortest order has three bytes.
        private static final int MOST_ORDERS = MOST_TEXT / 3;
        private static final int MOST_DIGITS = 4;
        private static final int MOST_ARGUMENTS = 3;

        private final int[] bytes;
        int length;
        private int at;
        int found;
        final int[] letters;
        final int[][] values;

        Orders() {
            bytes = new int[MOST_TEXT];
            length = 0;
            at = 0;
            found = 0;
            letters = new int[MOST_ORDERS];
            values = new int[MOST_ORDERS][MOST_ARGUMENTS];
        }

        void append(int c) {
            if (length < MOST_TEXT) {
                bytes[length] = c;
                length++;
            }
        }

        /** Reads the text; answers its fault, or NONE if it has none. */
        int fault() {
            at = 0;
            found = 0;
            skipBlanks();
            for (int i = 0; i <= MOST_ORDERS && at < length; i++) {
                if (!readsOrder()) {
                    return at;
                }
                skipBlanks();
            }
            return found > 0 ? NONE : length;
        }

        /** Reads an order; if there is none, the place stays at the byte that cannot stand there. */
        private boolean readsOrder() {
            int letter = present();
            int wanted = argumentsOf(letter);
            if (wanted == 0 || found >= MOST_ORDERS) {
                return false;
            }
            at++;
            for (int i = 0; i < wanted; i++) {
                boolean mayBeNegative = letter == 'x' && i == 1;
                if (!readsNumber(i, mayBeNegative)) {
                    return false;
                }
            }
            skipBlanks();
            if (present() != ';') {
                return false;
            }
            at++;
            letters[found] = letter;
            found++;
            return true;
        }

        private boolean readsNumber(int i, boolean mayBeNegative) {
            skipBlanks();
            boolean isNegative = mayBeNegative && present() == '-';
            if (isNegative) {
                at++;
            }
            int value = 0;
            int digits = 0;
            while (isDigit(present()) && digits < MOST_DIGITS) {
                value = 10 * value + present() - '0';
                digits++;
                at++;
            }
            values[found][i] = isNegative ? -value : value;
            return digits > 0 && !isDigit(present());
        }

        private void skipBlanks() {
            while (at < length && bytes[at] == ' ') {
                at++;
            }
        }

        /** The byte at the place that is being read; NONE behind the text. */
        private int present() {
            return at < length ? bytes[at] : NONE;
        }

        private static boolean isDigit(int c) {
            return c >= '0' && c <= '9';
        }

        private static int argumentsOf(int letter) {
            switch (letter) {
                case 'n':
                    return 1;
                case 'k':
                case 't':
                case 'u':
                case 'x':
                    return 2;
                case 'p':
                case 'm':
                case 'j':
                    return 3;
                default:
                    return 0;
            }
        }
    }

    /** Converts numbers between the kinds, by way of the moments. */
    static final class Series {
        final long[] wanted;
        private final long[] given;
        private final long[] moments;
        private final long[][] powers;

        Series() {
            wanted = new long[NUMBERS + 1];
            given = new long[NUMBERS + 1];
            moments = new long[NUMBERS + 1];
            powers = new long[NUMBERS + 1][NUMBERS + 1];
            moments[0] = 1;
            powers[0][0] = 1;
        }

        void convert(int[] numbers, int from, int to) {
            for (int n = 1; n <= NUMBERS; n++) {
                given[n] = numbers[n - 1];
                moments[n] = given[n] + remainder(from, n, given);
            }
            for (int n = 1; n <= NUMBERS; n++) {
                wanted[n] = moments[n] - remainder(to, n, wanted);
            }
        }

        /** What the n-th moment is more than the n-th cumulant: it needs the lower moments and cumulants alone. */
        private long remainder(int kind, int n, long[] cumulants) {
            if (kind == 0) {
                return 0;
            }
            if (kind == 1) {
                raise(n - 1);
            }
            long sum = 0;
            for (int size = 1; size < n; size++) {
                sum += cumulants[size] * (kind == 1 ? powers[size][n - size] : besides(n, size));
            }
            return sum;
        }

        /** The block of the first point has some of the other points, and those besides it are free. */
        private long besides(int n, int size) {
            return choose(n - 1, size - 1) * moments[n - size];
        }

        /**
         * powers[s][r] is the sum of the products of s moments whose indices make r together: behind each of the s
         * points of the first point's block is a gap, and no block reaches from one gap to another one. This fills in
         * the column r, which needs the moments up to r and the columns before.
         */
        private void raise(int r) {
            for (int s = 1; s + r <= NUMBERS; s++) {
                long sum = 0;
                for (int i = 0; i <= r; i++) {
                    sum += moments[i] * powers[s - 1][r - i];
                }
                powers[s][r] = sum;
            }
        }
    }
}
