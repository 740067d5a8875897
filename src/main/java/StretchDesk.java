/**
 * A desk of ranges: pieces of the line of whole or broken numbers between two
 * ends, kept in sixteen slots, worked on one by one or in chains of steps.
 */
public final class StretchDesk {
    public static final int NONE = -1;

    private static final int INT = 0;
    private static final int LONG = 1;
    private static final int FLOAT = 2;
    private static final int DOUBLE = 3;

    private static final int NO_SLOT = -2;
    private static final int EMPTY_SLOT = -3;
    private static final int WRONG_SORT = -4;
    private static final int WRONG_VALUE = -5;

    private static final int HULL = 0;
    private static final int MEET = 1;
    private static final int SIZE = 2;
    private static final int ROUND = 3;
    private static final int SIGN = 4;
    private static final int LEND = 5;
    private static final int TURN = 6;
    private static final int AS = 7;

    private static final int SLOTS = 16;
    private static final int STEPS = 12;

    /** Stands for the sort of a slot that is EMPTY, and for a step that isn't there. */
    private static final int ABSENT = -1;

    private final int[] sorts = new int[SLOTS];
    private final long[] lows = new long[SLOTS];
    private final long[] highs = new long[SLOTS];

    private final int[] stepWhats = new int[STEPS];
    private final int[] stepAs = new int[STEPS];
    private final int[] stepBs = new int[STEPS];
    private final int[] stepTos = new int[STEPS];

    private int latestRefusal;
    private int refusals;
    private int endsTold;
    private int stepsDone;

    public StretchDesk() {
        for (int slot = 0; slot < SLOTS; slot++) {
            sorts[slot] = ABSENT;
        }
        for (int k = 0; k < STEPS; k++) {
            stepWhats[k] = ABSENT;
        }
    }

    public int set(int slot, int sort, long low, long high) {
        return noted(placed(slot, sort, low, high));
    }

    public int clear(int slot) {
        if (!isSlot(slot)) {
            return noted(NO_SLOT);
        }
        int answer = sorts[slot] == ABSENT ? 0 : 1;
        sorts[slot] = ABSENT;
        return noted(answer);
    }

    public int sort(int slot) {
        int refusal = refusalToTake(slot);
        return noted(refusal < 0 ? refusal : sorts[slot]);
    }

    public long low(int slot) {
        if (noted(refusalToTake(slot)) < 0) {
            return 0;
        }
        endsTold++;
        return lows[slot];
    }

    public long high(int slot) {
        if (noted(refusalToTake(slot)) < 0) {
            return 0;
        }
        endsTold++;
        return highs[slot];
    }

    public int hull(int a, int b, int to) {
        return noted(performed(HULL, a, b, to));
    }

    public int meet(int a, int b, int to) {
        return noted(performed(MEET, a, b, to));
    }

    public int size(int a, int to) {
        return noted(performed(SIZE, a, 0, to));
    }

    public int round(int a, int how, int to) {
        return noted(performed(ROUND, a, how, to));
    }

    public int sign(int a, int to) {
        return noted(performed(SIGN, a, 0, to));
    }

    public int lend(int a, int b, int to) {
        return noted(performed(LEND, a, b, to));
    }

    public int turn(int a, int to) {
        return noted(performed(TURN, a, 0, to));
    }

    public int as(int a, int sort, int to) {
        return noted(performed(AS, a, sort, to));
    }

    public long near(int a, long v) {
        if (noted(refusalToCompare(a, v)) < 0) {
            return 0;
        }
        int sort = sorts[a];
        long number = Numbers.fitted(sort, v);
        return Numbers.lesser(sort, Numbers.greater(sort, number, lows[a]), highs[a]);
    }

    public int has(int a, long v) {
        int refusal = refusalToCompare(a, v);
        if (refusal < 0) {
            return noted(refusal);
        }
        int sort = sorts[a];
        long number = Numbers.fitted(sort, v);
        boolean outside = Numbers.isLess(sort, number, lows[a]) || Numbers.isLess(sort, highs[a], number);
        return noted(outside ? 0 : 1);
    }

    public int alike(int a, int b) {
        if (!isSlot(a) || !isSlot(b)) {
            return noted(NO_SLOT);
        }
        if (sorts[a] == ABSENT || sorts[b] == ABSENT) {
            return noted(EMPTY_SLOT);
        }
        boolean same = sorts[a] == sorts[b] && lows[a] == lows[b] && highs[a] == highs[b];
        return noted(same ? 1 : 0);
    }

    public int step(int k, int what, int a, int b, int to) {
        if (!areSlots(what, a, b, to)) {
            return noted(NO_SLOT);
        }
        if (!isStep(k) || what < HULL || what > AS) {
            return noted(WRONG_VALUE);
        }
        stepWhats[k] = what;
        stepAs[k] = a;
        stepBs[k] = b;
        stepTos[k] = to;
        return noted(1);
    }

    public int run(int k, int n) {
        if (!isStep(k) || n < 0 || n > STEPS) {
            return noted(WRONG_VALUE);
        }
        // Without this, a run that does no step would leave an older refusal standing.
        latestRefusal = 0;
        int done = 0;
        for (int at = k; at < STEPS && done < n; at++) {
            if (stepWhats[at] == ABSENT) {
                break;
            }
            if (noted(performed(stepWhats[at], stepAs[at], stepBs[at], stepTos[at])) < 0) {
                break;
            }
            done++;
        }
        stepsDone += done;
        return done;
    }

    public int state() {
        return latestRefusal;
    }

    public int about(int what) {
        switch (what) {
            case 0:
                return present(sorts);
            case 1:
                return present(stepWhats);
            case 2:
                return refusals;
            case 3:
                return endsTold;
            case 4:
                return stepsDone;
            default:
                return NONE;
        }
    }

    /** Every answer of a call or a step goes through here, so that state() and about() agree with it. */
    private int noted(int answer) {
        latestRefusal = answer < 0 ? answer : 0;
        if (answer < 0) {
            refusals++;
        }
        return answer;
    }

    private static int present(int[] row) {
        int count = 0;
        for (int i = 0; i < row.length; i++) {
            if (row[i] != ABSENT) {
                count++;
            }
        }
        return count;
    }

    private static boolean isSlot(int slot) {
        return slot >= 0 && slot < SLOTS;
    }

    private static boolean isStep(int k) {
        return k >= 0 && k < STEPS;
    }

    private static boolean isSort(int sort) {
        return sort >= INT && sort <= DOUBLE;
    }

    private static boolean takesTwo(int what) {
        return what == HULL || what == MEET || what == LEND;
    }

    private static boolean areSlots(int what, int a, int b, int to) {
        return isSlot(a) && isSlot(to) && (!takesTwo(what) || isSlot(b));
    }

    private int refusalToTake(int slot) {
        if (!isSlot(slot)) {
            return NO_SLOT;
        }
        return sorts[slot] == ABSENT ? EMPTY_SLOT : 0;
    }

    private int refusalToCompare(int slot, long v) {
        int refusal = refusalToTake(slot);
        if (refusal < 0) {
            return refusal;
        }
        return Numbers.isNumber(sorts[slot], v) ? 0 : WRONG_SORT;
    }

    private int placed(int slot, int sort, long low, long high) {
        if (!isSlot(slot)) {
            return NO_SLOT;
        }
        if (!isSort(sort) || !Numbers.isNumber(sort, low) || !Numbers.isNumber(sort, high)) {
            return WRONG_SORT;
        }
        long lowEnd = Numbers.fitted(sort, low);
        long highEnd = Numbers.fitted(sort, high);
        if (Numbers.isLess(sort, highEnd, lowEnd)) {
            return WRONG_VALUE;
        }
        return put(slot, sort, lowEnd, highEnd);
    }

    private int performed(int what, int a, int b, int to) {
        int refusal = refusalToPerform(what, a, b, to);
        if (refusal < 0) {
            return refusal;
        }
        switch (what) {
            case HULL:
                return joined(a, b, to);
            case MEET:
                return cut(a, b, to);
            case SIZE:
                return sized(a, to);
            case ROUND:
                return rounded(a, b, to);
            case SIGN:
                return signed(a, to);
            case LEND:
                return lent(a, b, to);
            case TURN:
                return turned(a, to);
            default:
                return converted(a, b, to);
        }
    }

    private int refusalToPerform(int what, int a, int b, int to) {
        if (!areSlots(what, a, b, to)) {
            return NO_SLOT;
        }
        if (sorts[a] == ABSENT) {
            return EMPTY_SLOT;
        }
        if (!takesTwo(what)) {
            return 0;
        }
        if (sorts[b] == ABSENT) {
            return EMPTY_SLOT;
        }
        return sorts[a] == sorts[b] ? 0 : WRONG_SORT;
    }

    private int joined(int a, int b, int to) {
        int sort = sorts[a];
        long low = Numbers.lesser(sort, lows[a], lows[b]);
        long high = Numbers.greater(sort, highs[a], highs[b]);
        return put(to, sort, low, high);
    }

    private int cut(int a, int b, int to) {
        int sort = sorts[a];
        long low = Numbers.greater(sort, lows[a], lows[b]);
        long high = Numbers.lesser(sort, highs[a], highs[b]);
        return putIfAny(to, sort, low, high);
    }

    private int sized(int a, int to) {
        int sort = sorts[a];
        long lowSize = Numbers.sizeOf(sort, lows[a]);
        long highSize = Numbers.sizeOf(sort, highs[a]);
        if (Numbers.isBelowZero(sort, lows[a]) && Numbers.isAboveZero(highs[a])) {
            return putOrdered(to, sort, 0, Numbers.greater(sort, lowSize, highSize));
        }
        return putOrdered(to, sort, lowSize, highSize);
    }

    private int rounded(int a, int how, int to) {
        int sort = sorts[a];
        if (!Numbers.isBroken(sort)) {
            return WRONG_SORT;
        }
        if (how < 0 || how > 4) {
            return WRONG_VALUE;
        }
        int lowWay = how;
        int highWay = how;
        if (how == 3) {
            lowWay = Numbers.DOWN;
            highWay = Numbers.UP;
        }
        if (how == 4) {
            lowWay = Numbers.UP;
            highWay = Numbers.DOWN;
        }
        return putIfAny(to, sort, Numbers.whole(sort, lows[a], lowWay), Numbers.whole(sort, highs[a], highWay));
    }

    private int signed(int a, int to) {
        int sort = sorts[a];
        if (!Numbers.isBroken(sort)) {
            return WRONG_SORT;
        }
        return put(to, sort, Numbers.signOf(sort, lows[a]), Numbers.signOf(sort, highs[a]));
    }

    private int lent(int a, int b, int to) {
        int sort = sorts[a];
        if (!Numbers.isBroken(sort)) {
            return WRONG_SORT;
        }
        long low = Numbers.withSign(sort, lows[a], lows[b]);
        long high = Numbers.withSign(sort, highs[a], highs[b]);
        return putOrdered(to, sort, low, high);
    }

    private int turned(int a, int to) {
        int sort = sorts[a];
        return putOrdered(to, sort, Numbers.negated(sort, lows[a]), Numbers.negated(sort, highs[a]));
    }

    private int converted(int a, int sort, int to) {
        if (!isSort(sort)) {
            return WRONG_SORT;
        }
        long low = Numbers.ofSort(sorts[a], lows[a], sort);
        long high = Numbers.ofSort(sorts[a], highs[a], sort);
        return putOrdered(to, sort, low, high);
    }

    private int put(int to, int sort, long low, long high) {
        sorts[to] = sort;
        lows[to] = low;
        highs[to] = high;
        return 1;
    }

    private int putOrdered(int to, int sort, long one, long other) {
        return put(to, sort, Numbers.lesser(sort, one, other), Numbers.greater(sort, one, other));
    }

    private int putIfAny(int to, int sort, long low, long high) {
        if (Numbers.isLess(sort, high, low)) {
            sorts[to] = ABSENT;
            return 0;
        }
        return put(to, sort, low, high);
    }

    /**
     * Single numbers of the four sorts, each held as it is told. A FLOAT is held with its sign
     * spread over the upper half, so one and the same mask, sign and order serve both broken sorts.
     * All is done on the bits, for the language lends no way from bits to a double and back.
     */
    private static final class Numbers {
        static final int DOWN = 0;
        static final int UP = 1;
        static final int NEAREST = 2;

        private static final long LEAST_INT = -0x80000000L;
        private static final long GREATEST_INT = 0x7fffffffL;
        private static final long LEAST_LONG = 0x8000000000000000L;
        private static final long GREATEST_LONG = 0x7fffffffffffffffL;

        private static final int FLOAT_FRACTION = 23;
        private static final int DOUBLE_FRACTION = 52;
        private static final int FLOAT_BIAS = 127;
        private static final int DOUBLE_BIAS = 1023;

        /** The least FLOAT above 0 is 2 to this power. */
        private static final int FLOAT_LEAST_POWER = -149;

        static boolean isBroken(int sort) {
            return sort == FLOAT || sort == DOUBLE;
        }

        static boolean isNumber(int sort, long v) {
            return !isBroken(sort) || magnitude(sort, fitted(sort, v)) <= infinity(sort);
        }

        /** Only the lowest 32 bits of an INT or a FLOAT count. */
        static long fitted(int sort, long v) {
            return sort == INT || sort == FLOAT ? (long) (int) v : v;
        }

        static boolean isLess(int sort, long one, long other) {
            return isBroken(sort) ? brokenRank(one) < brokenRank(other) : one < other;
        }

        static long lesser(int sort, long one, long other) {
            return isLess(sort, other, one) ? other : one;
        }

        static long greater(int sort, long one, long other) {
            return isLess(sort, one, other) ? other : one;
        }

        static boolean isBelowZero(int sort, long v) {
            return v < 0 && !isZero(sort, v);
        }

        static boolean isAboveZero(long v) {
            return v > 0;
        }

        static long sizeOf(int sort, long v) {
            return v < 0 ? negated(sort, v) : v;
        }

        static long negated(int sort, long v) {
            return isBroken(sort) ? v ^ signMask(sort) : fitted(sort, -v);
        }

        static long withSign(int sort, long v, long lender) {
            return magnitude(sort, v) | (lender & signMask(sort));
        }

        static long signOf(int sort, long v) {
            return isZero(sort, v) ? v : withSign(sort, one(sort), v);
        }

        static long whole(int sort, long v, int way) {
            boolean awayFromZero = v < 0 ? way == DOWN : way == UP;
            long size = wholeMagnitude(sort, magnitude(sort, v), way == NEAREST, awayFromZero);
            return withSign(sort, size, v);
        }

        static long ofSort(int from, long v, int sort) {
            if (from == sort) {
                return v;
            }
            if (!isBroken(sort)) {
                return isBroken(from) ? brokenToWhole(from, v, sort) : fitted(sort, v);
            }
            if (!isBroken(from)) {
                return wholeToBroken(v, sort);
            }
            long size = magnitude(from, v);
            long other = sort == DOUBLE ? widened(size) : narrowed(size);
            return v < 0 ? other | signMask(sort) : other;
        }

        /** Turns the bits of broken numbers below 0 over, so that the ORDER is that of whole numbers. */
        private static long brokenRank(long v) {
            return v < 0 ? v ^ GREATEST_LONG : v;
        }

        private static boolean isZero(int sort, long v) {
            return isBroken(sort) ? magnitude(sort, v) == 0 : v == 0;
        }

        private static long signMask(int sort) {
            return sort == FLOAT ? LEAST_INT : LEAST_LONG;
        }

        private static long magnitude(int sort, long v) {
            return v & ~signMask(sort);
        }

        private static int fractionBits(int sort) {
            return sort == FLOAT ? FLOAT_FRACTION : DOUBLE_FRACTION;
        }

        private static int bias(int sort) {
            return sort == FLOAT ? FLOAT_BIAS : DOUBLE_BIAS;
        }

        private static long infinity(int sort) {
            return (long) (2 * bias(sort) + 1) << fractionBits(sort);
        }

        private static long one(int sort) {
            return (long) bias(sort) << fractionBits(sort);
        }

        private static long half(int sort) {
            return (long) (bias(sort) - 1) << fractionBits(sort);
        }

        /** The power of two that a magnitude starts with, if it is not one of the least ones. */
        private static int power(int sort, long size) {
            return (int) (size >>> fractionBits(sort)) - bias(sort);
        }

        private static long mantissa(int sort, long size) {
            long leading = 1L << fractionBits(sort);
            return (size & (leading - 1)) | leading;
        }

        private static long wholeMagnitude(int sort, long size, boolean nearest, boolean away) {
            int power = power(sort, size);
            if (size == 0 || power >= fractionBits(sort)) {
                return size;
            }
            if (power < 0) {
                boolean up = nearest ? size > half(sort) : away;
                return up ? one(sort) : 0;
            }
            // A carry out of the fraction runs into the power, which is just what it should do;
            // and as the bias is odd, the bit above the fraction of 1.5 says "odd" as it should.
            int shift = fractionBits(sort) - power;
            if (nearest) {
                return nearestShifted(size, shift) << shift;
            }
            long unit = 1L << shift;
            boolean broken = (size & (unit - 1)) != 0;
            long down = size & -unit;
            return broken && away ? down + unit : down;
        }

        /** v without its lowest bits (1 to 62 of them), to the nearest, halves to even. */
        private static long nearestShifted(long v, int shift) {
            long kept = v >>> shift;
            long rest = v & ((1L << shift) - 1);
            long half = 1L << (shift - 1);
            boolean up = rest > half || (rest == half && (kept & 1) == 1);
            return up ? kept + 1 : kept;
        }

        private static int highestBit(long v) {
            for (int bit = 63; bit > 0; bit--) {
                if ((v >>> bit) != 0) {
                    return bit;
                }
            }
            return 0;
        }

        private static long wholeToBroken(long v, int sort) {
            if (v == 0) {
                return 0;
            }
            // The size of the least LONG is right, too, as only unsigned shifts touch it.
            long size = v < 0 ? -v : v;
            int top = highestBit(size);
            int fraction = fractionBits(sort);
            long mantissa = top <= fraction ? size << (fraction - top) : nearestShifted(size, top - fraction);
            // The mantissa's leading bit adds the last 1 to the power, and a carry adds one more.
            long bits = ((long) (top + bias(sort) - 1) << fraction) + mantissa;
            return v < 0 ? bits | signMask(sort) : bits;
        }

        private static long brokenToWhole(int from, long v, int sort) {
            long size = magnitude(from, v);
            int power = power(from, size);
            if (power < 0) {
                return 0;
            }
            if (power >= (sort == LONG ? 63 : 31)) {
                return extreme(sort, v < 0);
            }
            int shift = fractionBits(from) - power;
            long mantissa = mantissa(from, size);
            long whole = shift >= 0 ? mantissa >>> shift : mantissa << -shift;
            return v < 0 ? -whole : whole;
        }

        private static long extreme(int sort, boolean least) {
            if (sort == INT) {
                return least ? LEAST_INT : GREATEST_INT;
            }
            return least ? LEAST_LONG : GREATEST_LONG;
        }

        /** The magnitude of a FLOAT as that of a DOUBLE. */
        private static long widened(long size) {
            if (size == 0) {
                return 0;
            }
            if (size == infinity(FLOAT)) {
                return infinity(DOUBLE);
            }
            if (size >>> FLOAT_FRACTION != 0) {
                long moved = size << (DOUBLE_FRACTION - FLOAT_FRACTION);
                return moved + ((long) (DOUBLE_BIAS - FLOAT_BIAS) << DOUBLE_FRACTION);
            }
            int top = highestBit(size);
            long power = top + FLOAT_LEAST_POWER + DOUBLE_BIAS - 1;
            return (power << DOUBLE_FRACTION) + (size << (DOUBLE_FRACTION - top));
        }

        /** The magnitude of a DOUBLE as the nearest one of a FLOAT. */
        private static long narrowed(long size) {
            int power = power(DOUBLE, size);
            if (power > FLOAT_BIAS) {
                return infinity(FLOAT);
            }
            if (power < FLOAT_LEAST_POWER - 1) {
                return 0;
            }
            if (power > -FLOAT_BIAS) {
                long moved = size - ((long) (DOUBLE_BIAS - FLOAT_BIAS) << DOUBLE_FRACTION);
                return nearestShifted(moved, DOUBLE_FRACTION - FLOAT_FRACTION);
            }
            return nearestShifted(mantissa(DOUBLE, size), DOUBLE_FRACTION + FLOAT_LEAST_POWER - power);
        }
    }
}
