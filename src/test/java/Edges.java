import java.util.Set;
import java.util.TreeSet;

/** Values on both sides of the bounds that the document names. */
final class Edges {
    static final int[] NO_SHAPE = outside(0, 5);
    static final int[] NO_PART = outside(0, 5);

    private Edges() {
    }

    /** The bounds themselves, those next to them within, and one amid them. */
    static int[] inside(int low, int high) {
        Set<Integer> values = new TreeSet<>();
        for (int value : new int[] {low, low + 1, low + (high - low) / 2, high - 1, high}) {
            if (value >= low && value <= high) {
                values.add(value);
            }
        }
        return row(values);
    }

    /**
     * Right beyond the bounds, the least and the greatest int, and those far off that a byte, a
     * short, a shift, a sign that is lost or a sum that wraps around would take for one within.
     */
    static int[] outside(int low, int high) {
        Set<Integer> values = new TreeSet<>();
        long[] tries = {
            low - 1L, low - 2L, high + 1L, high + 2L, -low, -high, -high - 1L, low - 1000L, high + 1000L,
            low + 32L, high - 32L, low + 64L, high - 64L, low + 256L, high - 256L, low + 65536L, high - 65536L,
            low + (1L << 30), high - (1L << 30), low + (1L << 31), high - (1L << 31), MaskDesk.NONE,
            Integer.MIN_VALUE, Integer.MIN_VALUE + 1L, Integer.MAX_VALUE - 1L, Integer.MAX_VALUE,
        };
        for (long value : tries) {
            boolean anInt = value >= Integer.MIN_VALUE && value <= Integer.MAX_VALUE;
            if (anInt && (value < low || value > high)) {
                values.add((int) value);
            }
        }
        return row(values);
    }

    static boolean within(long value, long low, long high) {
        return value >= low && value <= high;
    }

    private static int[] row(Set<Integer> values) {
        int[] row = new int[values.size()];
        int n = 0;
        for (int value : values) {
            row[n++] = value;
        }
        return row;
    }
}
