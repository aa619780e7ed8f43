/** Numbers that look random but are the same in each run. */
final class Dice {
    private long state;

    Dice(long seed) {
        state = seed * 0x9E3779B97F4A7C15L + 1;
    }

    int below(int bound) {
        state = state * 6364136223846793005L + 1442695040888963407L;
        return (int) ((state >>> 33) % bound);
    }

    /** Mostly a number from low to high, now and then one just outside or far outside. */
    int about(int low, int high) {
        int kind = below(40);
        switch (kind) {
            case 0:
                return low - 1;
            case 1:
                return high + 1;
            case 2:
                return below(2) == 0 ? Integer.MIN_VALUE : Integer.MAX_VALUE;
            default:
                return low + below(high - low + 1);
        }
    }
}
