/** Desks, numbers and calls that several tests use. */
final class Desks {
    static final int INT = 0;
    static final int LONG = 1;
    static final int FLOAT = 2;
    static final int DOUBLE = 3;

    static final int HULL = 0;
    static final int MEET = 1;
    static final int SIZE = 2;
    static final int ROUND = 3;
    static final int SIGN = 4;
    static final int LEND = 5;
    static final int TURN = 6;
    static final int AS = 7;

    static final int[] NO_SLOTS = {-1, 16, Integer.MIN_VALUE, Integer.MAX_VALUE};
    static final int[] NO_SORTS = {-1, 4, Integer.MIN_VALUE, Integer.MAX_VALUE};

    static final double INF = Double.POSITIVE_INFINITY;

    private static final long[] INTS = {Integer.MIN_VALUE, Integer.MIN_VALUE + 1, -2, -1, 0, 1, 2,
        Integer.MAX_VALUE - 1, Integer.MAX_VALUE};
    private static final long[] LONGS = {Long.MIN_VALUE, Long.MIN_VALUE + 1, -0x80000001L, -0x80000000L, -1, 0, 1,
        0x7fffffffL, 0x80000000L, 0xffffffffL, 0x100000000L, Long.MAX_VALUE - 1, Long.MAX_VALUE};
    private static final float[] FLOATS = {0, Float.MIN_VALUE, Float.MIN_NORMAL, 1, 1.5f, 2, Float.MAX_VALUE,
        Float.POSITIVE_INFINITY};
    private static final double[] DOUBLES = {0, Double.MIN_VALUE, Double.MIN_NORMAL, 1, 1.5, 2, Double.MAX_VALUE,
        Double.POSITIVE_INFINITY};

    private Desks() {
    }

    /** A FLOAT as it is told. */
    static long f(float v) {
        return Float.floatToRawIntBits(v);
    }

    /** A DOUBLE as it is told. */
    static long d(double v) {
        return Double.doubleToRawLongBits(v);
    }

    /** A number that both broken sorts have, as it is told in one of them. */
    static long broken(int sort, double v) {
        return sort == FLOAT ? f((float) v) : d(v);
    }

    /**
     * Numbers of a sort, each less than the next one. Those of a broken sort mirror one another:
     * the one at i has the size of the one at (length - 1 - i), and both zeros are in the middle.
     */
    static long[] line(int sort) {
        if (sort < FLOAT) {
            return sort == INT ? INTS.clone() : LONGS.clone();
        }
        int half = FLOATS.length;
        long[] line = new long[2 * half];
        for (int i = 0; i < half; i++) {
            line[half + i] = sort == FLOAT ? f(FLOATS[i]) : d(DOUBLES[i]);
            line[half - 1 - i] = sort == FLOAT ? f(-FLOATS[i]) : d(-DOUBLES[i]);
        }
        return line;
    }

    /** Bits next to the infinities and at the far ends that are no number of this broken sort. */
    static long[] notNumbers(int sort) {
        if (sort == FLOAT) {
            return new long[] {0x7f800001L, 0x7fc00000L, 0x7fffffffL, 0xff800001L, 0xffc00000L, 0xffffffffL, -1,
                0xff800001, 0x1_7fc0_0000L, 0x8000_0000_7f80_0001L};
        }
        return new long[] {0x7ff0000000000001L, 0x7ff8000000000000L, 0x7fffffffffffffffL, 0xfff0000000000001L,
            0xfff8000000000000L, -1};
    }

    static StretchDesk with(int sort, long low, long high) {
        return put(new StretchDesk(), 0, sort, low, high);
    }

    static StretchDesk withTwo(int sort, long low, long high, long low2, long high2) {
        return put(with(sort, low, high), 1, sort, low2, high2);
    }

    static StretchDesk put(StretchDesk desk, int slot, int sort, long low, long high) {
        if (desk.set(slot, sort, low, high) != 1) {
            throw new IllegalStateException("a range for a test was not set");
        }
        return desk;
    }

    static boolean takesTwo(int what) {
        return what == HULL || what == MEET || what == LEND;
    }

    /** The call that a step of the chain does. */
    static int perform(StretchDesk desk, int what, int a, int b, int to) {
        switch (what) {
            case HULL: return desk.hull(a, b, to);
            case MEET: return desk.meet(a, b, to);
            case SIZE: return desk.size(a, to);
            case ROUND: return desk.round(a, b, to);
            case SIGN: return desk.sign(a, to);
            case LEND: return desk.lend(a, b, to);
            case TURN: return desk.turn(a, to);
            default: return desk.as(a, b, to);
        }
    }
}
