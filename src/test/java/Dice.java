/** Numbers made up from a fixed seed: the same on every machine and in every run of the tests. */
final class Dice {
    private static final int[] FAR = {Integer.MIN_VALUE, Integer.MAX_VALUE, MaskDesk.NONE, 1 << 16};

    private long seed;

    Dice(long seed) {
        this.seed = seed;
    }

    /** Knuth's multiplier: the upper bits are good enough here. */
    int below(int n) {
        seed = seed * 6364136223846793005L + 1442695040888963407L;
        return (int) ((seed >>> 33) % n);
    }

    int from(int low, int high) {
        return low + below(high - low + 1);
    }

    boolean oneIn(int n) {
        return below(n) == 0;
    }

    /** Mostly within the bounds, now and then at them, beside them or far away. */
    int about(int low, int high) {
        switch (below(60)) {
            case 0:
                return low - 1;
            case 1:
                return high + 1;
            case 2:
                return oneIn(2) ? low : high;
            case 3:
                return oneIn(8) ? FAR[below(4)] : from(low, high);
            default:
                return from(low, high);
        }
    }
}
