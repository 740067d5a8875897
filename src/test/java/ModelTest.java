import java.util.Random;

/**
 * Long runs of calls, drawn with a fixed seed, against a model that works with the machine's own
 * floats and doubles; the desk itself works on bits alone.
 */
public final class ModelTest {
    private static final int RUNS = 30000;
    private static final int CALLS = 512;

    /** What one turn calls at most, with its looks at the desk. */
    private static final int CALLS_A_TURN = 8;

    private static final long[] LONGS = {0, 1, -1, 2, -2, 3, 5, -7, Integer.MAX_VALUE, Integer.MIN_VALUE, 0x80000000L,
        0xffffffffL, 0x100000000L, 0x1ffffffffL, Long.MAX_VALUE, Long.MIN_VALUE, (1L << 53) + 1, (1L << 24) + 1,
        (1L << 60) + (1L << 36), (1L << 60) + (1L << 36) + 1, Long.MIN_VALUE + 1};
    private static final double[] DOUBLES = {0.0, -0.0, 0.5, -0.5, 1, -1, 1.5, -1.5, 2.5, -2.5, 0.75, -0.25,
        Double.MIN_VALUE, -Double.MIN_VALUE, Double.MIN_NORMAL, Double.MAX_VALUE, -Double.MAX_VALUE,
        Double.POSITIVE_INFINITY, Double.NEGATIVE_INFINITY, 0x1p-149, 0x1p-150, -0x1.8p-149, 0x1.0000000000001p-150,
        0x1p-126, 0x0.fffffep-126, 0x0.ffffffp-126, 0x1.fffffep127, 0x1.ffffffp127, 0x1.fffffefffffffp127,
        0x1.000001p0, 0x1.000003p0, 0x1p31, -0x1p31, 0x1p63, -0x1p63, 0x1p52, 0x1.8p52, 0x1p23, 8388607.5,
        4503599627370495.5, 2147483647.5, -2147483648.5, 0.49999999999999994, Double.NaN};

    private final Random random = new Random(20261118);
    private final Checks checks = new Checks();

    public static void main(String[] args) {
        ModelTest test = new ModelTest();
        for (int run = 0; run < RUNS; run++) {
            test.oneRun(run);
        }
        test.checks.end();
    }

    private void oneRun(int run) {
        StretchDesk desk = new StretchDesk();
        Model model = new Model();
        int slots = 1 + random.nextInt(16);
        int left = CALLS;
        if (random.nextBoolean()) {
            fillChain("run " + run, desk, model, slots);
            left -= 12;
        }
        for (int i = 0; i < left / CALLS_A_TURN; i++) {
            oneTurn("run " + run + ", turn " + i, desk, model, slots);
        }
    }

    /** Most chains that are drawn step by step have gaps; long runs need one without. */
    private void fillChain(String name, StretchDesk desk, Model model, int slots) {
        for (int k = 0; k < 12; k++) {
            int what = random.nextInt(8);
            int a = random.nextInt(slots);
            int b = second(what, random.nextInt(slots));
            int to = random.nextInt(slots);
            checks.due(name + " step", desk.step(k, what, a, b, to), model.step(k, what, a, b, to));
        }
    }

    /** The second number of an operation: how, a SORT, or a slot. */
    private int second(int what, int slot) {
        return what == Desks.ROUND ? upTo(4) : what == Desks.AS ? upTo(3) : slot;
    }

    private int slot(int slots) {
        return random.nextInt(60) == 0 ? random.nextInt(40) - 20 : random.nextInt(slots);
    }

    private int upTo(int last) {
        return random.nextInt(30) == 0 ? random.nextInt(5 * last + 5) - 2 * last - 2 : random.nextInt(last + 1);
    }

    /** Not every end is NaN or out of order, or few slots would ever be filled. */
    private long number(int sort) {
        if (random.nextInt(3) == 0) {
            return sort == 2 ? random.nextInt() : random.nextLong() >> random.nextInt(64);
        }
        if (sort < 2) {
            return LONGS[random.nextInt(LONGS.length)] + (random.nextInt(4) == 0 ? random.nextInt(7) - 3 : 0);
        }
        double v = DOUBLES[random.nextInt(DOUBLES.length)];
        if (random.nextInt(3) == 0) {
            v = (random.nextInt(4000) - 2000) / (double) (1 << random.nextInt(12));
        }
        long high = random.nextInt(5) == 0 ? (long) random.nextInt() << 32 : 0;
        return sort == 2 ? (Float.floatToRawIntBits((float) v) & 0xffffffffL) | high : Double.doubleToRawLongBits(v);
    }

    private void oneTurn(String name, StretchDesk desk, Model model, int slots) {
        int kind = random.nextInt(24);
        int a = slot(slots);
        int b = slot(slots);
        int to = slot(slots);
        int sort = upTo(3);
        if (kind < 5) {
            long low = number(sort);
            long high = number(sort);
            if (random.nextInt(5) != 0 && model.areTurned(sort, low, high)) {
                long swap = low;
                low = high;
                high = swap;
            }
            checks.due(name + " set", desk.set(a, sort, low, high), model.set(a, sort, low, high));
        } else if (kind == 5 && random.nextInt(4) == 0) {
            checks.due(name + " clear", desk.clear(a), model.clear(a));
        } else if (kind == 6) {
            checks.due(name + " sort", desk.sort(a), model.sort(a));
        } else if (kind < 9) {
            checks.due(name + " low", desk.low(a), model.end(a, true));
            checks.due(name + " high", desk.high(a), model.end(a, false));
        } else if (kind < 17) {
            doOne(name, desk, model, kind - 9, new int[] {a, b, to});
        } else {
            askOne(name, desk, model, kind - 17, new int[] {a, b, to});
        }
        checks.due(name + " (kind " + kind + ") state", desk.state(), model.state);
        int about = random.nextInt(7) - 1;
        checks.due(name + " (kind " + kind + ") about", desk.about(about), model.about(about));
        if (model.good(a) && model.sorts[a] >= 0) {
            checks.due(name + " a.low", desk.low(a), model.end(a, true));
        }
        if (model.good(to) && model.sorts[to] >= 0) {
            checks.due(name + " (kind " + kind + ") to.low", desk.low(to), model.end(to, true));
            checks.due(name + " (kind " + kind + ") to.high", desk.high(to), model.end(to, false));
            checks.due(name + " to.sort", desk.sort(to), model.sort(to));
        }
    }

    private void doOne(String name, StretchDesk desk, Model model, int what, int[] slots) {
        int a = slots[0];
        int to = slots[2];
        int b = second(what, slots[1]);
        int want = model.noted(model.perform(what, a, b, to));
        checks.due(name + " operation " + what, Desks.perform(desk, what, a, b, to), want);
    }

    private void askOne(String name, StretchDesk desk, Model model, int kind, int[] slots) {
        int a = slots[0];
        int sort = model.good(a) && model.sorts[a] >= 0 ? model.sorts[a] : 3;
        long v = number(sort);
        if (kind == 0) {
            checks.due(name + " near", desk.near(a, v), model.near(a, v));
        } else if (kind == 1) {
            checks.due(name + " has", desk.has(a, v), model.has(a, v));
        } else if (kind == 2) {
            checks.due(name + " alike", desk.alike(a, slots[1]), model.alike(a, slots[1]));
        } else if (kind < 5) {
            int k = upTo(11);
            int what = upTo(7);
            int b = second(what, slots[1]);
            checks.due(name + " step", desk.step(k, what, a, b, slots[2]), model.step(k, what, a, b, slots[2]));
        } else {
            int k = upTo(11);
            int n = upTo(12);
            checks.due(name + " run", desk.run(k, n), model.run(k, n));
        }
    }

    private static final class Model {
        final int[] sorts = new int[16];
        final long[][] ends = new long[16][2];
        final int[][] steps = new int[12][];
        int state = 0;
        int refused = 0;
        int told = 0;
        int done = 0;

        Model() {
            java.util.Arrays.fill(sorts, -1);
        }

        boolean good(int slot) {
            return slot >= 0 && slot < 16;
        }

        int noted(int answer) {
            state = Math.min(answer, 0);
            refused += answer < 0 ? 1 : 0;
            return answer;
        }

        long fit(int sort, long v) {
            return sort == 0 || sort == 2 ? (int) v : v;
        }

        double real(int sort, long v) {
            return sort == 2 ? Float.intBitsToFloat((int) v) : Double.longBitsToDouble(v);
        }

        /** The bits of a number of this broken sort that is known to have it. */
        long bits(int sort, double v) {
            return sort == 2 ? Float.floatToRawIntBits((float) v) : Double.doubleToRawLongBits(v);
        }

        boolean valid(int sort, long v) {
            return sort >= 0 && sort < 4 && (sort < 2 || !Double.isNaN(real(sort, v)));
        }

        int compare(int sort, long x, long y) {
            return sort < 2 ? Long.compare(x, y) : Double.compare(real(sort, x), real(sort, y));
        }

        /** Both are numbers, the greater one first. */
        boolean areTurned(int sort, long x, long y) {
            return valid(sort, x) && valid(sort, y) && compare(sort, fit(sort, x), fit(sort, y)) > 0;
        }

        int taken(int slot) {
            return !good(slot) ? -2 : sorts[slot] < 0 ? -3 : 0;
        }

        int set(int slot, int sort, long low, long high) {
            if (!good(slot)) {
                return noted(-2);
            }
            if (!valid(sort, low) || !valid(sort, high)) {
                return noted(-4);
            }
            if (compare(sort, fit(sort, low), fit(sort, high)) > 0) {
                return noted(-5);
            }
            return noted(put(slot, sort, fit(sort, low), fit(sort, high), false));
        }

        int put(int slot, int sort, long x, long y, boolean order) {
            boolean wrong = compare(sort, x, y) > 0;
            sorts[slot] = wrong && !order ? -1 : sort;
            ends[slot][0] = wrong ? y : x;
            ends[slot][1] = wrong ? x : y;
            return wrong && !order ? 0 : 1;
        }

        int clear(int slot) {
            if (!good(slot)) {
                return noted(-2);
            }
            int was = sorts[slot];
            sorts[slot] = -1;
            return noted(was < 0 ? 0 : 1);
        }

        int sort(int slot) {
            return noted(taken(slot) < 0 ? taken(slot) : sorts[slot]);
        }

        long end(int slot, boolean low) {
            if (noted(taken(slot)) < 0) {
                return 0;
            }
            told++;
            return ends[slot][low ? 0 : 1];
        }

        long near(int a, long v) {
            int code = taken(a);
            code = code == 0 && !valid(sorts[a], v) ? -4 : code;
            if (noted(code) < 0) {
                return 0;
            }
            long x = fit(sorts[a], v);
            if (compare(sorts[a], x, ends[a][0]) < 0) {
                return ends[a][0];
            }
            return compare(sorts[a], x, ends[a][1]) > 0 ? ends[a][1] : x;
        }

        int has(int a, long v) {
            int code = taken(a);
            code = code == 0 && !valid(sorts[a], v) ? -4 : code;
            if (code < 0) {
                return noted(code);
            }
            long x = fit(sorts[a], v);
            return noted(compare(sorts[a], x, ends[a][0]) >= 0 && compare(sorts[a], x, ends[a][1]) <= 0 ? 1 : 0);
        }

        int alike(int a, int b) {
            if (!good(a) || !good(b)) {
                return noted(-2);
            }
            if (sorts[a] < 0 || sorts[b] < 0) {
                return noted(-3);
            }
            return noted(sorts[a] == sorts[b] && java.util.Arrays.equals(ends[a], ends[b]) ? 1 : 0);
        }

        int step(int k, int what, int a, int b, int to) {
            boolean two = what == 0 || what == 1 || what == 5;
            if (!good(a) || !good(to) || two && !good(b)) {
                return noted(-2);
            }
            if (k < 0 || k > 11 || what < 0 || what > 7) {
                return noted(-5);
            }
            steps[k] = new int[] {what, a, b, to};
            return noted(1);
        }

        int run(int k, int n) {
            if (k < 0 || k > 11 || n < 0 || n > 12) {
                return noted(-5);
            }
            state = 0;
            int count = 0;
            while (count < n && k + count < 12 && steps[k + count] != null) {
                int[] s = steps[k + count];
                if (noted(perform(s[0], s[1], s[2], s[3])) < 0) {
                    break;
                }
                count++;
                done++;
            }
            return count;
        }

        int about(int what) {
            int slots = 0;
            for (int sort : sorts) {
                slots += sort < 0 ? 0 : 1;
            }
            int there = 0;
            for (int[] s : steps) {
                there += s == null ? 0 : 1;
            }
            int[] all = {slots, there, refused, told, done};
            return what < 0 || what > 4 ? -1 : all[what];
        }

        int perform(int what, int a, int b, int to) {
            boolean two = what == 0 || what == 1 || what == 5;
            if (!good(a) || !good(to) || two && !good(b)) {
                return -2;
            }
            if (sorts[a] < 0 || two && sorts[b] < 0) {
                return -3;
            }
            int sort = sorts[a];
            if (two && sorts[b] != sort || sort < 2 && what >= 3 && what <= 5 || what == 7 && (b < 0 || b > 3)) {
                return -4;
            }
            if (what == 3 && (b < 0 || b > 4)) {
                return -5;
            }
            long low = ends[a][0];
            long high = ends[a][1];
            switch (what) {
                case 0: return put(to, sort, least(sort, low, ends[b][0]), most(sort, high, ends[b][1]), false);
                case 1: return put(to, sort, most(sort, low, ends[b][0]), least(sort, high, ends[b][1]), false);
                case 2: return size(sort, low, high, to);
                case 3: return put(to, sort, rounded(sort, low, b, true), rounded(sort, high, b, false), false);
                case 4: return put(to, sort, sign(sort, low), sign(sort, high), false);
                case 5: return put(to, sort, lent(sort, low, ends[b][0]), lent(sort, high, ends[b][1]), true);
                case 6: return put(to, sort, negative(sort, low), negative(sort, high), true);
                default: return put(to, b, cast(sort, low, b), cast(sort, high, b), true);
            }
        }

        long least(int sort, long x, long y) {
            return compare(sort, x, y) <= 0 ? x : y;
        }

        long most(int sort, long x, long y) {
            return compare(sort, x, y) >= 0 ? x : y;
        }

        int size(int sort, long low, long high, int to) {
            boolean across = sort < 2 ? low < 0 && high > 0 : real(sort, low) < 0 && real(sort, high) > 0;
            long x = sizeOf(sort, low);
            long y = sizeOf(sort, high);
            return across ? put(to, sort, 0, most(sort, x, y), true) : put(to, sort, x, y, true);
        }

        long sizeOf(int sort, long v) {
            switch (sort) {
                case 0: return Math.abs((int) v);
                case 1: return Math.abs(v);
                default: return bits(sort, Math.abs(real(sort, v)));
            }
        }

        long rounded(int sort, long v, int how, boolean low) {
            double x = real(sort, v);
            if (how == 2) {
                return bits(sort, Math.rint(x));
            }
            boolean down = how == 0 || how == 3 && low || how == 4 && !low;
            return bits(sort, down ? Math.floor(x) : Math.ceil(x));
        }

        long sign(int sort, long v) {
            return bits(sort, Math.signum(real(sort, v)));
        }

        long lent(int sort, long v, long lender) {
            return bits(sort, Math.copySign(real(sort, v), real(sort, lender)));
        }

        long negative(int sort, long v) {
            switch (sort) {
                case 0: return -(int) v;
                case 1: return -v;
                default: return bits(sort, -real(sort, v));
            }
        }

        long cast(int from, long v, int to) {
            if (from < 2) {
                switch (to) {
                    case 0: return (int) v;
                    case 1: return v;
                    case 2: return Float.floatToRawIntBits((float) v);
                    default: return Double.doubleToRawLongBits((double) v);
                }
            }
            switch (to) {
                case 0: return (int) real(from, v);
                case 1: return (long) real(from, v);
                default: return bits(to, real(from, v));
            }
        }
    }
}
