/** Numbers that look thrown, the same in every run. */
final class Dice {
    private long state;

    Dice(long seed) {
        state = seed * 0x9E3779B97F4A7C15L + 1;
    }

    int next() {
        state = state * 6364136223846793005L + 1442695040888963407L;
        return (int) (state >>> 32);
    }

    int below(int bound) {
        return (int) ((next() & 0xFFFFFFFFL) % bound);
    }

    /** Of low .. high, with one beyond either end now and then. */
    int about(int low, int high) {
        int odd = below(40);
        return odd == 0 ? low - 1 : odd == 1 ? high + 1 : low + below(high - low + 1);
    }

    int any() {
        int[] edges = {Integer.MIN_VALUE, -2, -1, 0, 1, 2, 100, 399, 400, 401, Integer.MAX_VALUE};
        return below(2) == 0 ? edges[below(edges.length)] : below(2) == 0 ? next() : below(500) - 5;
    }
}
