/** One part for each promise of the document: ordinary inputs, the edges that it names, and wrong inputs. */
public final class PromisesTest {
    private static final int INT = 0;
    private static final int LONG = 1;
    private static final int FLOAT = 2;
    private static final int DOUBLE = 3;
    private static final int[] BAD_SLOTS = {-1, 16, Integer.MIN_VALUE, Integer.MAX_VALUE};
    private static final int[] BAD_SORTS = {-1, 4, Integer.MIN_VALUE, Integer.MAX_VALUE};
    private static final float INF_F = Float.POSITIVE_INFINITY;
    private static final double INF = Double.POSITIVE_INFINITY;

    private static final Checks CHECKS = new Checks();

    public static void main(String[] args) {
        newObject();
        set();
        clear();
        sortLowHigh();
        hull();
        meet();
        size();
        round();
        sign();
        lend();
        turn();
        as();
        near();
        has();
        alike();
        step();
        run();
        state();
        about();
        refusalsInOrder();
        slotsTakenAndComeTo();
        CHECKS.end();
    }

    private static void due(String call, long got, long want) {
        CHECKS.due(call, got, want);
    }

    private static long f(float v) {
        return Float.floatToRawIntBits(v);
    }

    private static long d(double v) {
        return Double.doubleToRawLongBits(v);
    }

    private static StretchDesk with(int sort, long low, long high) {
        StretchDesk desk = new StretchDesk();
        due("set for a test", desk.set(0, sort, low, high), 1);
        return desk;
    }

    private static StretchDesk withTwo(int sort, long low, long high, int sort2, long low2, long high2) {
        StretchDesk desk = with(sort, low, high);
        due("set for a test", desk.set(1, sort2, low2, high2), 1);
        return desk;
    }

    private static void newObject() {
        StretchDesk desk = new StretchDesk();
        due("new: state", desk.state(), 0);
        for (int what = 0; what < 5; what++) {
            due("new: about(" + what + ")", desk.about(what), 0);
        }
        for (int k = 0; k < 12; k++) {
            due("new: run", desk.run(k, 12), 0);
            due("new: state after run", desk.state(), 0);
        }
        for (int slot = 0; slot < 16; slot++) {
            CHECKS.dueEmpty("new", desk, slot);
        }
        due("NONE", StretchDesk.NONE, -1);
    }

    private static void set() {
        StretchDesk desk = new StretchDesk();
        for (int slot = 0; slot < 16; slot++) {
            due("set", desk.set(slot, LONG, -slot, slot), 1);
            CHECKS.dueRange("set", desk, slot, LONG, -slot, slot);
        }
        due("set anew", desk.set(15, INT, 3, 3), 1);
        CHECKS.dueRange("set anew", desk, 15, INT, 3, 3);
        due("set INT: lowest 32 bits", desk.set(0, INT, 0x1_8000_0000L, 0x7_0000_0005L), 1);
        CHECKS.dueRange("set INT: lowest 32 bits", desk, 0, INT, Integer.MIN_VALUE, 5);
        due("set FLOAT: lowest 32 bits", desk.set(0, FLOAT, 0x7fff_0000_8000_0000L, 0x1_0000_0000L), 1);
        CHECKS.dueRange("set FLOAT: lowest 32 bits", desk, 0, FLOAT, f(-0f), f(0f));
        due("set LONG: all", desk.set(0, LONG, Long.MIN_VALUE, Long.MAX_VALUE), 1);
        CHECKS.dueRange("set LONG: all", desk, 0, LONG, Long.MIN_VALUE, Long.MAX_VALUE);
        due("set FLOAT: all", desk.set(0, FLOAT, f(-INF_F), f(INF_F)), 1);
        CHECKS.dueRange("set FLOAT: all", desk, 0, FLOAT, f(-INF_F), f(INF_F));
        due("set DOUBLE: all", desk.set(0, DOUBLE, d(-INF), d(INF)), 1);
        CHECKS.dueRange("set DOUBLE: all", desk, 0, DOUBLE, d(-INF), d(INF));
        due("set least ones", desk.set(0, DOUBLE, d(-Double.MIN_VALUE), d(Double.MIN_VALUE)), 1);
        setRefused(desk);
    }

    private static void setRefused(StretchDesk desk) {
        due("set before refusals", desk.set(0, INT, 1, 2), 1);
        for (int sort : BAD_SORTS) {
            CHECKS.dueRefusal("set: sort " + sort, desk, desk.set(0, sort, 2, 1), -4);
        }
        long[] notFloats = {0x7f800001L, 0x7fc00000L, 0x7fffffffL, -1, 0xff800001L, (int) 0xffc00000};
        for (long v : notFloats) {
            CHECKS.dueRefusal("set FLOAT NaN low", desk, desk.set(0, FLOAT, v, 0), -4);
            CHECKS.dueRefusal("set FLOAT NaN high", desk, desk.set(0, FLOAT, 0, v), -4);
        }
        long[] notDoubles = {0x7ff0000000000001L, 0x7ff8000000000000L, Long.MAX_VALUE, -1, 0xfff0000000000001L};
        for (long v : notDoubles) {
            CHECKS.dueRefusal("set DOUBLE NaN low", desk, desk.set(0, DOUBLE, v, 0), -4);
            CHECKS.dueRefusal("set DOUBLE NaN high", desk, desk.set(0, DOUBLE, 0, v), -4);
        }
        CHECKS.dueRefusal("set INT: low above high", desk, desk.set(0, INT, 2, 1), -5);
        CHECKS.dueRefusal("set INT: low above high", desk, desk.set(0, INT, 0x7fffffffL, 0x80000000L), -5);
        CHECKS.dueRefusal("set LONG: low above high", desk, desk.set(0, LONG, Long.MAX_VALUE, Long.MIN_VALUE), -5);
        CHECKS.dueRefusal("set FLOAT: low above high", desk, desk.set(0, FLOAT, f(-1f), f(-2f)), -5);
        CHECKS.dueRefusal("set FLOAT: zeros", desk, desk.set(0, FLOAT, f(0f), f(-0f)), -5);
        CHECKS.dueRefusal("set DOUBLE: low above high", desk, desk.set(0, DOUBLE, d(INF), d(-INF)), -5);
        CHECKS.dueRefusal("set DOUBLE: zeros", desk, desk.set(0, DOUBLE, d(0.0), d(-0.0)), -5);
        for (int slot : BAD_SLOTS) {
            CHECKS.dueRefusal("set: slot " + slot, desk, desk.set(slot, 9, 2, 1), -2);
        }
        CHECKS.dueRange("set: refused, nothing changed", desk, 0, INT, 1, 2);
    }

    private static void clear() {
        StretchDesk desk = with(DOUBLE, d(1), d(2));
        due("clear what is there", desk.clear(0), 1);
        CHECKS.dueEmpty("clear", desk, 0);
        due("clear what is EMPTY", desk.clear(0), 0);
        due("clear what is EMPTY: state", desk.state(), 0);
        due("clear the last", desk.clear(15), 0);
        for (int slot : BAD_SLOTS) {
            CHECKS.dueRefusal("clear: slot", desk, desk.clear(slot), -2);
        }
    }

    private static void sortLowHigh() {
        StretchDesk desk = new StretchDesk();
        for (int sort = 0; sort < 4; sort++) {
            due("set", desk.set(sort, sort, 0, 1), 1);
            due("sort", desk.sort(sort), sort);
            due("low", desk.low(sort), 0);
            due("high", desk.high(sort), 1);
            due("state", desk.state(), 0);
        }
        due("FLOAT told with sign", desk.set(0, FLOAT, 0xbf800000L, 0xbf000000L), 1);
        CHECKS.dueRange("FLOAT told with sign", desk, 0, FLOAT, (int) 0xbf800000, (int) 0xbf000000);
        CHECKS.dueRefusal("sort of EMPTY", desk, desk.sort(9), -3);
        due("low of EMPTY", desk.low(9), 0);
        due("low of EMPTY: state", desk.state(), -3);
        due("sort", desk.sort(0), FLOAT);
        due("high of EMPTY", desk.high(9), 0);
        due("high of EMPTY: state", desk.state(), -3);
        for (int slot : BAD_SLOTS) {
            CHECKS.dueRefusal("sort: slot", desk, desk.sort(slot), -2);
            due("sort", desk.sort(0), FLOAT);
            due("low: slot", desk.low(slot), 0);
            due("low: slot: state", desk.state(), -2);
            due("sort", desk.sort(0), FLOAT);
            due("high: slot", desk.high(slot), 0);
            due("high: slot: state", desk.state(), -2);
        }
    }

    private static void dueHull(int sort, long[] in, long low, long high) {
        StretchDesk desk = withTwo(sort, in[0], in[1], sort, in[2], in[3]);
        due("hull", desk.hull(0, 1, 2), 1);
        CHECKS.dueRange("hull", desk, 2, sort, low, high);
        due("hull, the other way", desk.hull(1, 0, 3), 1);
        due("hull, both ways", desk.alike(2, 3), 1);
    }

    private static void hull() {
        dueHull(INT, new long[] {-5, -3, 7, 9}, -5, 9);
        dueHull(INT, new long[] {-5, 30, 7, 9}, -5, 30);
        dueHull(LONG, new long[] {Long.MIN_VALUE, -3, 7, Long.MAX_VALUE}, Long.MIN_VALUE, Long.MAX_VALUE);
        dueHull(FLOAT, new long[] {f(-5f), f(-3f), f(-9f), f(-7f)}, f(-9f), f(-3f));
        dueHull(FLOAT, new long[] {f(0f), f(0f), f(-0f), f(-0f)}, f(-0f), f(0f));
        dueHull(DOUBLE, new long[] {d(-INF), d(-5), d(-0.0), d(INF)}, d(-INF), d(INF));
        dueHull(DOUBLE, new long[] {d(0.5), d(0.5), d(-0.5), d(-0.25)}, d(-0.5), d(0.5));
        StretchDesk desk = withTwo(INT, 1, 2, LONG, 1, 2);
        CHECKS.dueRefusal("hull: two SORTS", desk, desk.hull(0, 1, 2), -4);
        CHECKS.dueEmpty("hull: refused", desk, 2);
    }

    private static void dueMeet(int sort, long[] in, long low, long high) {
        StretchDesk desk = withTwo(sort, in[0], in[1], sort, in[2], in[3]);
        due("meet", desk.meet(0, 1, 2), 1);
        CHECKS.dueRange("meet", desk, 2, sort, low, high);
        due("meet, the other way", desk.meet(1, 0, 3), 1);
        due("meet, both ways", desk.alike(2, 3), 1);
    }

    private static void dueNoMeet(int sort, long[] in) {
        StretchDesk desk = withTwo(sort, in[0], in[1], sort, in[2], in[3]);
        due("set for no meet", desk.set(2, INT, 1, 1), 1);
        due("no meet", desk.meet(0, 1, 2), 0);
        due("no meet: state", desk.state(), 0);
        CHECKS.dueEmpty("no meet", desk, 2);
        due("no meet, the other way, to what is taken", desk.meet(1, 0, 0), 0);
        CHECKS.dueEmpty("no meet", desk, 0);
        CHECKS.dueRange("no meet: the other one", desk, 1, sort, in[2], in[3]);
    }

    private static void meet() {
        dueMeet(INT, new long[] {-5, 8, 7, 9}, 7, 8);
        dueMeet(INT, new long[] {-5, 7, 7, 9}, 7, 7);
        dueMeet(LONG, new long[] {Long.MIN_VALUE, Long.MAX_VALUE, -4, 4}, -4, 4);
        dueMeet(FLOAT, new long[] {f(-5f), f(-1f), f(-2f), f(7f)}, f(-2f), f(-1f));
        dueMeet(FLOAT, new long[] {f(-0f), f(0f), f(0f), f(7f)}, f(0f), f(0f));
        dueMeet(DOUBLE, new long[] {d(-INF), d(-0.0), d(-0.0), d(INF)}, d(-0.0), d(-0.0));
        dueNoMeet(INT, new long[] {1, 2, 3, 4});
        dueNoMeet(LONG, new long[] {Long.MIN_VALUE, Long.MIN_VALUE, Long.MAX_VALUE, Long.MAX_VALUE});
        dueNoMeet(FLOAT, new long[] {f(-0f), f(-0f), f(0f), f(0f)});
        dueNoMeet(DOUBLE, new long[] {d(-2), d(-1.5), d(-1), d(-0.5)});
        StretchDesk desk = withTwo(FLOAT, 1, 2, DOUBLE, 1, 2);
        CHECKS.dueRefusal("meet: two SORTS", desk, desk.meet(0, 1, 0), -4);
        CHECKS.dueRange("meet: refused", desk, 0, FLOAT, 1, 2);
    }

    private static void dueSize(int sort, long low, long high, long wantLow, long wantHigh) {
        StretchDesk desk = with(sort, low, high);
        due("size", desk.size(0, 1), 1);
        CHECKS.dueRange("size of " + low + " .. " + high, desk, 1, sort, wantLow, wantHigh);
    }

    private static void size() {
        dueSize(INT, 3, 5, 3, 5);
        dueSize(INT, 0, 5, 0, 5);
        dueSize(INT, -5, -3, 3, 5);
        dueSize(INT, -5, 0, 0, 5);
        dueSize(INT, -5, 3, 0, 5);
        dueSize(INT, -3, 5, 0, 5);
        dueSize(INT, 0, 0, 0, 0);
        int leastInt = Integer.MIN_VALUE;
        dueSize(INT, leastInt, leastInt, leastInt, leastInt);
        dueSize(INT, leastInt, -3, leastInt, 3);
        dueSize(INT, leastInt, 0, leastInt, 0);
        dueSize(INT, leastInt, 7, 0, 7);
        dueSize(INT, leastInt + 1, 7, 0, Integer.MAX_VALUE);
        dueSize(LONG, leastInt, leastInt, 0x80000000L, 0x80000000L);
        dueSize(LONG, Long.MIN_VALUE, -3, Long.MIN_VALUE, 3);
        dueSize(LONG, Long.MIN_VALUE, 7, 0, 7);
        dueSize(LONG, Long.MIN_VALUE + 1, 7, 0, Long.MAX_VALUE);
        dueSize(FLOAT, f(-0f), f(5f), f(0f), f(5f));
        dueSize(FLOAT, f(-5f), f(-0f), f(0f), f(5f));
        dueSize(FLOAT, f(-5f), f(0f), f(0f), f(5f));
        dueSize(FLOAT, f(-0f), f(-0f), f(0f), f(0f));
        dueSize(FLOAT, f(-0f), f(0f), f(0f), f(0f));
        dueSize(FLOAT, f(-INF_F), f(-2f), f(2f), f(INF_F));
        dueSize(FLOAT, f(-INF_F), f(2f), f(0f), f(INF_F));
        dueSize(FLOAT, f(-Float.MIN_VALUE), f(Float.MIN_VALUE), f(0f), f(Float.MIN_VALUE));
        dueSize(DOUBLE, d(-3.5), d(2.5), d(0), d(3.5));
        dueSize(DOUBLE, d(-2.5), d(3.5), d(0), d(3.5));
        dueSize(DOUBLE, d(-3.5), d(-2.5), d(2.5), d(3.5));
        dueSize(DOUBLE, d(-0.0), d(0.0), d(0), d(0));
        dueSize(DOUBLE, d(2.5), d(INF), d(2.5), d(INF));
    }

    private static void dueRound(double low, double high, int how, double wantLow, double wantHigh) {
        StretchDesk desk = with(DOUBLE, d(low), d(high));
        due("round", desk.round(0, how, 1), 1);
        CHECKS.dueRange("round " + how + " of " + low + " .. " + high, desk, 1, DOUBLE, d(wantLow), d(wantHigh));
        desk = with(FLOAT, f((float) low), f((float) high));
        due("round", desk.round(0, how, 1), 1);
        CHECKS.dueRange("round " + how + " of FLOAT " + low + " .. " + high, desk, 1, FLOAT, f((float) wantLow), f((float) wantHigh));
    }

    private static void dueRoundEmpty(double low, double high) {
        StretchDesk desk = with(DOUBLE, d(low), d(high));
        due("round to what is taken", desk.round(0, 4, 0), 0);
        due("round to what is taken: state", desk.state(), 0);
        CHECKS.dueEmpty("round", desk, 0);
        desk = with(FLOAT, f((float) low), f((float) high));
        due("set for round", desk.set(1, INT, 1, 1), 1);
        due("round FLOAT", desk.round(0, 4, 1), 0);
        CHECKS.dueEmpty("round FLOAT", desk, 1);
        CHECKS.dueRange("round FLOAT", desk, 0, FLOAT, f((float) low), f((float) high));
    }

    private static void round() {
        dueRound(-2.5, 2.5, 0, -3, 2);
        dueRound(-2.5, 2.5, 1, -2, 3);
        dueRound(-2.5, 2.5, 2, -2, 2);
        dueRound(-2.5, 2.5, 3, -3, 3);
        dueRound(-2.5, 2.5, 4, -2, 2);
        dueRound(1.5, 3.5, 2, 2, 4);
        dueRound(-3.5, -1.5, 2, -4, -2);
        dueRound(1.25, 1.75, 2, 1, 2);
        dueRound(-1.75, -1.25, 2, -2, -1);
        dueRound(0.5, 0.75, 2, 0, 1);
        dueRound(-0.75, -0.5, 2, -1, -0.0);
        dueRound(-0.25, 0.25, 2, -0.0, 0);
        dueRound(-0.25, 0.25, 1, -0.0, 1);
        dueRound(-0.25, 0.25, 0, -1, 0);
        dueRound(-0.25, 0.25, 4, -0.0, 0);
        dueRound(-0.0, 0, 0, -0.0, 0);
        dueRound(-0.0, 0, 1, -0.0, 0);
        dueRound(-0.0, 0, 2, -0.0, 0);
        dueRound(-0.0, -0.0, 4, -0.0, -0.0);
        dueRound(-INF, INF, 3, -INF, INF);
        dueRound(-INF, INF, 4, -INF, INF);
        dueRound(-7, 8, 4, -7, 8);
        dueRound(1.9990234375, 1.9990234375, 1, 2, 2);
        dueRound(8388607.5, 8388608, 1, 8388608, 8388608);
        dueRound(8388607.5, 16777215, 2, 8388608, 16777215);
        dueRound(-8388606.5, 8388606.5, 2, -8388606, 8388606);
        dueRound(-Float.MIN_VALUE, Float.MIN_VALUE, 3, -1, 1);
        dueRound(-Float.MAX_VALUE, Float.MAX_VALUE, 3, -Float.MAX_VALUE, Float.MAX_VALUE);
        dueRoundEmpty(0.25, 0.75);
        dueRoundEmpty(-0.75, -0.25);
        dueRoundEmpty(7.125, 7.125);
        dueRoundEmpty(-7.75, -7.5);
        roundRefused();
    }

    private static void roundRefused() {
        for (int how : new int[] {-1, 5, Integer.MIN_VALUE, Integer.MAX_VALUE}) {
            StretchDesk desk = with(DOUBLE, d(1.5), d(2.5));
            CHECKS.dueRefusal("round: how", desk, desk.round(0, how, 0), -5);
            CHECKS.dueRange("round: refused", desk, 0, DOUBLE, d(1.5), d(2.5));
        }
        for (int sort = INT; sort <= LONG; sort++) {
            StretchDesk desk = with(sort, 1, 2);
            CHECKS.dueRefusal("round: SORT", desk, desk.round(0, 0, 0), -4);
            CHECKS.dueRefusal("round: SORT before how", desk, desk.round(0, 5, 0), -4);
        }
    }

    private static void dueSign(double low, double high, double wantLow, double wantHigh) {
        StretchDesk desk = with(DOUBLE, d(low), d(high));
        due("sign", desk.sign(0, 1), 1);
        CHECKS.dueRange("sign of " + low + " .. " + high, desk, 1, DOUBLE, d(wantLow), d(wantHigh));
        desk = with(FLOAT, f((float) low), f((float) high));
        due("sign", desk.sign(0, 1), 1);
        CHECKS.dueRange("sign of FLOAT " + low + " .. " + high, desk, 1, FLOAT, f((float) wantLow), f((float) wantHigh));
    }

    private static void sign() {
        dueSign(-7, 9, -1, 1);
        dueSign(-INF, INF, -1, 1);
        dueSign(-0.0, 0, -0.0, 0);
        dueSign(-0.0, 3, -0.0, 1);
        dueSign(-3, -0.0, -1, -0.0);
        dueSign(2, 3, 1, 1);
        dueSign(-3, -2, -1, -1);
        dueSign(-Float.MIN_VALUE, Float.MIN_VALUE, -1, 1);
        for (int sort = INT; sort <= LONG; sort++) {
            StretchDesk desk = with(sort, -1, 2);
            CHECKS.dueRefusal("sign: SORT", desk, desk.sign(0, 0), -4);
            CHECKS.dueRange("sign: refused", desk, 0, sort, -1, 2);
        }
    }

    private static void dueLend(double[] in, double wantLow, double wantHigh) {
        StretchDesk desk = withTwo(DOUBLE, d(in[0]), d(in[1]), DOUBLE, d(in[2]), d(in[3]));
        due("lend", desk.lend(0, 1, 2), 1);
        CHECKS.dueRange("lend", desk, 2, DOUBLE, d(wantLow), d(wantHigh));
        desk = withTwo(FLOAT, f((float) in[0]), f((float) in[1]), FLOAT, f((float) in[2]), f((float) in[3]));
        due("lend FLOAT", desk.lend(0, 1, 2), 1);
        CHECKS.dueRange("lend FLOAT", desk, 2, FLOAT, f((float) wantLow), f((float) wantHigh));
    }

    private static void lend() {
        dueLend(new double[] {2, 3, -9, 9}, -2, 3);
        dueLend(new double[] {2, 3, -9, -8}, -3, -2);
        dueLend(new double[] {-3, -2, 8, 9}, 2, 3);
        dueLend(new double[] {-2, 3, -0.0, -0.0}, -3, -2);
        dueLend(new double[] {-3, 2, 0, 0}, 2, 3);
        dueLend(new double[] {-3, -2, -0.0, 0}, -3, 2);
        dueLend(new double[] {0, 0, -1, 1}, -0.0, 0);
        dueLend(new double[] {-INF, INF, 1, INF}, INF, INF);
        dueLend(new double[] {-INF, 4, 1, INF}, 4, INF);
        StretchDesk desk = withTwo(INT, 1, 2, INT, -1, -1);
        CHECKS.dueRefusal("lend: INT", desk, desk.lend(0, 1, 0), -4);
        desk = withTwo(LONG, 1, 2, LONG, -1, -1);
        CHECKS.dueRefusal("lend: LONG", desk, desk.lend(0, 1, 0), -4);
        desk = withTwo(FLOAT, 1, 2, DOUBLE, 1, 2);
        CHECKS.dueRefusal("lend: two SORTS", desk, desk.lend(0, 1, 0), -4);
        CHECKS.dueRange("lend: refused", desk, 0, FLOAT, 1, 2);
        desk = withTwo(FLOAT, 1, 2, INT, 1, 2);
        CHECKS.dueRefusal("lend: FLOAT and INT", desk, desk.lend(0, 1, 0), -4);
    }

    private static void dueTurn(int sort, long low, long high, long wantLow, long wantHigh) {
        StretchDesk desk = with(sort, low, high);
        due("turn", desk.turn(0, 1), 1);
        CHECKS.dueRange("turn of " + low + " .. " + high, desk, 1, sort, wantLow, wantHigh);
    }

    private static void turn() {
        dueTurn(INT, -5, 3, -3, 5);
        dueTurn(INT, 0, 0, 0, 0);
        dueTurn(INT, 0, 7, -7, 0);
        int leastInt = Integer.MIN_VALUE;
        dueTurn(INT, leastInt, leastInt, leastInt, leastInt);
        dueTurn(INT, leastInt, 3, leastInt, -3);
        dueTurn(INT, leastInt, -3, leastInt, 3);
        dueTurn(INT, leastInt, Integer.MAX_VALUE, leastInt, -Integer.MAX_VALUE);
        dueTurn(LONG, leastInt, 3, -3, 0x80000000L);
        dueTurn(LONG, Long.MIN_VALUE, -3, Long.MIN_VALUE, 3);
        dueTurn(LONG, -3, Long.MAX_VALUE, -Long.MAX_VALUE, 3);
        dueTurn(FLOAT, f(-5f), f(3f), f(-3f), f(5f));
        dueTurn(FLOAT, f(0f), f(0f), f(-0f), f(-0f));
        dueTurn(FLOAT, f(-0f), f(INF_F), f(-INF_F), f(0f));
        dueTurn(FLOAT, f(Float.MIN_VALUE), f(2f), f(-2f), f(-Float.MIN_VALUE));
        dueTurn(DOUBLE, d(-0.0), d(0.0), d(-0.0), d(0.0));
        dueTurn(DOUBLE, d(-INF), d(-7), d(7), d(INF));
    }

    private static void dueAs(int from, long low, long high, int to, long wantLow, long wantHigh) {
        StretchDesk desk = with(from, low, high);
        due("as", desk.as(0, to, 1), 1);
        CHECKS.dueRange("as " + from + " " + low + " .. " + high, desk, 1, to, wantLow, wantHigh);
        CHECKS.dueRange("as leaves what is taken", desk, 0, from, low, high);
    }

    private static void as() {
        for (int sort = 0; sort < 4; sort++) {
            dueAs(sort, 1, 2, sort, 1, 2);
        }
        asOfWhole();
        asToWhole();
        asAmongBroken();
        for (int sort : BAD_SORTS) {
            StretchDesk desk = with(INT, 1, 2);
            CHECKS.dueRefusal("as: SORT", desk, desk.as(0, sort, 0), -4);
            CHECKS.dueRange("as: refused", desk, 0, INT, 1, 2);
        }
    }

    private static void asOfWhole() {
        dueAs(INT, Integer.MIN_VALUE, Integer.MAX_VALUE, LONG, Integer.MIN_VALUE, Integer.MAX_VALUE);
        dueAs(INT, Integer.MIN_VALUE, Integer.MAX_VALUE, FLOAT, f(-2147483648f), f(2147483648f));
        dueAs(INT, Integer.MIN_VALUE, Integer.MAX_VALUE, DOUBLE, d(-2147483648.0), d(2147483647.0));
        dueAs(INT, 0, 1, FLOAT, f(0f), f(1f));
        dueAs(INT, 16777217, 16777219, FLOAT, f(16777216f), f(16777220f));
        dueAs(INT, -16777219, -16777217, FLOAT, f(-16777220f), f(-16777216f));
        dueAs(LONG, 0x1_8000_0000L, 0x2_0000_0005L, INT, Integer.MIN_VALUE, 5);
        dueAs(LONG, 5, 0x1_0000_0003L, INT, 3, 5);
        dueAs(LONG, 0, Long.MAX_VALUE, INT, -1, 0);
        dueAs(LONG, Long.MIN_VALUE, Long.MAX_VALUE, FLOAT, f(-0x1p63f), f(0x1p63f));
        dueAs(LONG, Long.MIN_VALUE, Long.MAX_VALUE, DOUBLE, d(-0x1p63), d(0x1p63));
        dueAs(LONG, (1L << 53) + 1, (1L << 53) + 3, DOUBLE, d(0x1p53), d(0x1p53 + 4));
        // By way of a DOUBLE this one would become a half first, and then the wrong FLOAT.
        dueAs(LONG, (1L << 60) + (1L << 36) + 1, Long.MAX_VALUE, FLOAT, f(0x1.000002p60f), f(0x1p63f));
        dueAs(LONG, (1L << 60) + (1L << 36), Long.MAX_VALUE, FLOAT, f(0x1p60f), f(0x1p63f));
    }

    private static void asToWhole() {
        dueAs(FLOAT, f(-INF_F), f(INF_F), INT, Integer.MIN_VALUE, Integer.MAX_VALUE);
        dueAs(FLOAT, f(-INF_F), f(INF_F), LONG, Long.MIN_VALUE, Long.MAX_VALUE);
        dueAs(FLOAT, f(-2.75f), f(2.75f), INT, -2, 2);
        dueAs(FLOAT, f(-0.99f), f(-0f), LONG, 0, 0);
        dueAs(FLOAT, f(-0x1p31f), f(0x1p31f), INT, Integer.MIN_VALUE, Integer.MAX_VALUE);
        dueAs(FLOAT, f(-0x1p31f), f(0x1p31f), LONG, Integer.MIN_VALUE, 1L << 31);
        dueAs(FLOAT, f(-0x1.fffffep62f), f(0x1.fffffep62f), LONG, -0x7fffff8000000000L, 0x7fffff8000000000L);
        dueAs(DOUBLE, d(-INF), d(INF), INT, Integer.MIN_VALUE, Integer.MAX_VALUE);
        dueAs(DOUBLE, d(-INF), d(INF), LONG, Long.MIN_VALUE, Long.MAX_VALUE);
        dueAs(DOUBLE, d(-2147483647.5), d(2147483646.5), INT, -2147483647, 2147483646);
        dueAs(DOUBLE, d(-2147483648.5), d(2147483647.5), INT, Integer.MIN_VALUE, Integer.MAX_VALUE);
        dueAs(DOUBLE, d(-0x1p63), d(0x1p63), LONG, Long.MIN_VALUE, Long.MAX_VALUE);
        dueAs(DOUBLE, d(-0x1.fffffffffffffp62), d(2251799813685249.5), LONG, -0x7ffffffffffffc00L, 2251799813685249L);
        dueAs(DOUBLE, d(-Double.MIN_VALUE), d(Double.MIN_VALUE), LONG, 0, 0);
        dueAs(DOUBLE, d(-0.0), d(0.999), INT, 0, 0);
    }

    private static void asAmongBroken() {
        dueAs(FLOAT, f(-INF_F), f(INF_F), DOUBLE, d(-INF), d(INF));
        dueAs(FLOAT, f(-0f), f(0f), DOUBLE, d(-0.0), d(0.0));
        dueAs(FLOAT, f(-Float.MIN_VALUE), f(Float.MIN_NORMAL), DOUBLE, d(-0x1p-149), d(0x1p-126));
        dueAs(FLOAT, f(0x0.fffffep-126f), f(Float.MAX_VALUE), DOUBLE, d(0x0.fffffep-126), d(0x1.fffffep127));
        dueAs(DOUBLE, d(-INF), d(INF), FLOAT, f(-INF_F), f(INF_F));
        dueAs(DOUBLE, d(-0.0), d(0.0), FLOAT, f(-0f), f(0f));
        dueAs(DOUBLE, d(-Double.MAX_VALUE), d(Double.MAX_VALUE), FLOAT, f(-INF_F), f(INF_F));
        dueAs(DOUBLE, d(0x1.fffffefffffffp127), d(0x1.ffffffp127), FLOAT, f(Float.MAX_VALUE), f(INF_F));
        dueAs(DOUBLE, d(0x1p-150), d(0x1.0000000000001p-150), FLOAT, f(0f), f(Float.MIN_VALUE));
        dueAs(DOUBLE, d(-0x1.8p-149), d(-0x1p-150), FLOAT, f(-0x1p-148f), f(-0f));
        dueAs(DOUBLE, d(-Double.MIN_VALUE), d(Double.MIN_NORMAL), FLOAT, f(-0f), f(0f));
        dueAs(DOUBLE, d(0x0.fffffep-126), d(0x0.ffffffp-126), FLOAT, f(0x0.fffffep-126f), f(Float.MIN_NORMAL));
        dueAs(DOUBLE, d(0x1.000001p0), d(0x1.000003p0), FLOAT, f(1f), f(0x1.000004p0f));
        dueAs(DOUBLE, d(-0.1), d(0.1), FLOAT, f(-0.1f), f(0.1f));
    }

    private static void dueNear(int sort, long low, long high, long v, long want) {
        StretchDesk desk = with(sort, low, high);
        due("near " + v + " in " + low + " .. " + high, desk.near(0, v), want);
        due("near: state", desk.state(), 0);
    }

    private static void near() {
        dueNear(INT, -2, 5, 3, 3);
        dueNear(INT, -2, 5, -3, -2);
        dueNear(INT, -2, 5, 6, 5);
        dueNear(INT, -2, 5, 0x1_0000_0004L, 4);
        dueNear(INT, -2, 5, 0x7fff_ffffL, 5);
        dueNear(INT, -2, 5, 0x8000_0000L, -2);
        dueNear(LONG, -2, 5, Long.MIN_VALUE, -2);
        dueNear(LONG, -2, 5, Long.MAX_VALUE, 5);
        dueNear(FLOAT, f(-2f), f(5f), f(-1f), f(-1f));
        dueNear(FLOAT, f(-2f), f(5f), f(-3f), f(-2f));
        dueNear(FLOAT, f(-2f), f(5f), 0xbf800000L, f(-1f));
        dueNear(FLOAT, f(0f), f(5f), f(-0f), f(0f));
        dueNear(FLOAT, f(-5f), f(-0f), f(0f), f(-0f));
        dueNear(DOUBLE, d(-2), d(5), d(INF), d(5));
        dueNear(DOUBLE, d(-2), d(5), d(-INF), d(-2));
        dueNear(DOUBLE, d(-2), d(5), d(-0.0), d(-0.0));
        StretchDesk desk = withTwo(FLOAT, f(1f), f(2f), DOUBLE, d(1), d(2));
        due("near: FLOAT NaN", desk.near(0, 0x7fc00000L), 0);
        due("near: FLOAT NaN: state", desk.state(), -4);
        due("near", desk.near(0, f(3f)), f(2f));
        due("near: DOUBLE NaN", desk.near(1, d(Double.NaN)), 0);
        due("near: DOUBLE NaN: state", desk.state(), -4);
        due("near: EMPTY", desk.near(2, d(Double.NaN)), 0);
        due("near: EMPTY: state", desk.state(), -3);
        for (int slot : BAD_SLOTS) {
            due("near: slot", desk.near(slot, -1), 0);
            due("near: slot: state", desk.state(), -2);
        }
    }

    private static void dueHas(int sort, long low, long high, long v, long want) {
        StretchDesk desk = with(sort, low, high);
        due("has " + v + " in " + low + " .. " + high, desk.has(0, v), want);
        due("has: state", desk.state(), 0);
    }

    private static void has() {
        dueHas(INT, -2, 5, -2, 1);
        dueHas(INT, -2, 5, 5, 1);
        dueHas(INT, -2, 5, -3, 0);
        dueHas(INT, -2, 5, 6, 0);
        dueHas(INT, -2, 5, 0x1_0000_0004L, 1);
        dueHas(INT, -2, 5, 0xffff_ffffL, 1);
        dueHas(LONG, -2, 5, 0xffff_ffffL, 0);
        dueHas(LONG, Long.MIN_VALUE, Long.MAX_VALUE, Long.MIN_VALUE, 1);
        dueHas(FLOAT, f(-2f), f(-1f), f(-1.5f), 1);
        dueHas(FLOAT, f(-2f), f(-1f), f(-2.5f), 0);
        dueHas(FLOAT, f(-2f), f(-1f), f(-0.5f), 0);
        dueHas(FLOAT, f(0f), f(1f), f(-0f), 0);
        dueHas(FLOAT, f(-1f), f(-0f), f(0f), 0);
        dueHas(FLOAT, f(-1f), f(0f), f(-0f), 1);
        dueHas(DOUBLE, d(-INF), d(INF), d(INF), 1);
        dueHas(DOUBLE, d(1), d(INF), d(Double.MAX_VALUE), 1);
        dueHas(DOUBLE, d(1), d(Double.MAX_VALUE), d(INF), 0);
        StretchDesk desk = withTwo(FLOAT, f(1f), f(2f), DOUBLE, d(1), d(2));
        CHECKS.dueRefusal("has: FLOAT NaN", desk, desk.has(0, 0xffc00000L), -4);
        CHECKS.dueRefusal("has: DOUBLE NaN", desk, desk.has(1, d(Double.NaN)), -4);
        CHECKS.dueRefusal("has: EMPTY", desk, desk.has(2, d(Double.NaN)), -3);
        for (int slot : BAD_SLOTS) {
            CHECKS.dueRefusal("has: slot", desk, desk.has(slot, -1), -2);
        }
    }

    private static void alike() {
        StretchDesk desk = withTwo(INT, 1, 2, LONG, 1, 2);
        due("alike: itself", desk.alike(0, 0), 1);
        due("alike: two SORTS", desk.alike(0, 1), 0);
        due("alike: state", desk.state(), 0);
        due("set", desk.set(2, INT, 1, 3), 1);
        due("alike: HIGH", desk.alike(0, 2), 0);
        due("set", desk.set(2, INT, 0, 2), 1);
        due("alike: LOW", desk.alike(0, 2), 0);
        due("set", desk.set(2, INT, 0x5_0000_0001L, 0x6_0000_0002L), 1);
        due("alike: lowest 32 bits", desk.alike(0, 2), 1);
        due("set", desk.set(3, DOUBLE, d(-0.0), d(0)), 1);
        due("set", desk.set(4, DOUBLE, d(0), d(0)), 1);
        due("alike: zeros", desk.alike(3, 4), 0);
        due("set", desk.set(5, FLOAT, 0xffffffff80000000L, 0), 1);
        due("set", desk.set(6, FLOAT, 0x80000000L, 0x100000000L), 1);
        due("alike: FLOAT", desk.alike(5, 6), 1);
        CHECKS.dueRefusal("alike: EMPTY", desk, desk.alike(0, 9), -3);
        CHECKS.dueRefusal("alike: EMPTY", desk, desk.alike(9, 0), -3);
        CHECKS.dueRefusal("alike: both EMPTY", desk, desk.alike(9, 9), -3);
        for (int slot : BAD_SLOTS) {
            CHECKS.dueRefusal("alike: slot", desk, desk.alike(slot, 9), -2);
            CHECKS.dueRefusal("alike: slot", desk, desk.alike(9, slot), -2);
        }
    }

    private static void step() {
        StretchDesk desk = new StretchDesk();
        for (int what = 0; what < 8; what++) {
            due("step " + what, desk.step(what, what, 0, 0, 15), 1);
            for (int slot : BAD_SLOTS) {
                boolean takesTwo = what == 0 || what == 1 || what == 5;
                CHECKS.dueRefusal("step " + what + ": a", desk, desk.step(99, what, slot, 0, 0), -2);
                CHECKS.dueRefusal("step " + what + ": to", desk, desk.step(99, what, 0, 0, slot), -2);
                int answer = desk.step(what, what, 0, slot, 0);
                due("step " + what + ": b", answer, takesTwo ? -2 : 1);
                due("step " + what + ": b, state", desk.state(), takesTwo ? -2 : 0);
            }
        }
        due("steps", desk.about(1), 8);
        for (int what : new int[] {-1, 8, Integer.MIN_VALUE, Integer.MAX_VALUE}) {
            CHECKS.dueRefusal("step: what", desk, desk.step(11, what, 0, -7, 0), -5);
            CHECKS.dueRefusal("step: a before what", desk, desk.step(11, what, 16, 0, 0), -2);
            CHECKS.dueRefusal("step: to before what", desk, desk.step(11, what, 0, 0, 16), -2);
        }
        for (int k : new int[] {-1, 12, Integer.MIN_VALUE, Integer.MAX_VALUE}) {
            CHECKS.dueRefusal("step: k", desk, desk.step(k, 0, 0, 0, 0), -5);
            CHECKS.dueRefusal("step: b before k", desk, desk.step(k, 5, 0, 16, 0), -2);
        }
        due("steps", desk.about(1), 8);
        due("the last step", desk.step(11, 0, 15, 15, 15), 1);
        due("steps", desk.about(1), 9);
        stepRefusedChangesNothing();
        stepDoesWhatItSays();
    }

    private static void stepRefusedChangesNothing() {
        StretchDesk desk = with(INT, 3, 5);
        due("step", desk.step(0, 6, 0, 0, 1), 1);
        due("step refused", desk.step(0, 9, 0, 0, 2), -5);
        due("run", desk.run(0, 1), 1);
        CHECKS.dueRange("step refused: the old one stays", desk, 1, INT, -5, -3);
        due("step anew", desk.step(0, 2, 1, 0, 2), 1);
        due("run", desk.run(0, 1), 1);
        CHECKS.dueRange("step anew", desk, 2, INT, 3, 5);
        due("steps", desk.about(1), 1);
    }

    private static void stepDoesWhatItSays() {
        int[] bs = {1, 1, 77, 3, -77, 1, 16, INT};
        for (int what = 0; what < 8; what++) {
            StretchDesk desk = withTwo(DOUBLE, d(-2.5), d(7.25), DOUBLE, d(-8.5), d(-1.5));
            due("step", desk.step(3, what, 0, bs[what], 2), 1);
            due("run", desk.run(3, 1), 1);
            due("run: state", desk.state(), 0);
            due("the call itself", called(desk, what, bs[what]), 1);
            due("step " + what + " does as the call does", desk.alike(2, 3), 1);
        }
    }

    private static int called(StretchDesk desk, int what, int b) {
        switch (what) {
            case 0: return desk.hull(0, b, 3);
            case 1: return desk.meet(0, b, 3);
            case 2: return desk.size(0, 3);
            case 3: return desk.round(0, b, 3);
            case 4: return desk.sign(0, 3);
            case 5: return desk.lend(0, b, 3);
            case 6: return desk.turn(0, 3);
            default: return desk.as(0, b, 3);
        }
    }

    private static void run() {
        StretchDesk desk = with(INT, 3, 5);
        for (int k = 0; k < 12; k++) {
            due("step", desk.step(k, 6, k, 0, k + 1), 1);
        }
        due("run all", desk.run(0, 12), 12);
        CHECKS.dueRange("run all", desk, 12, INT, 3, 5);
        CHECKS.dueRange("run all", desk, 11, INT, -5, -3);
        due("run to the end", desk.run(11, 12), 1);
        due("run to the end", desk.run(5, 12), 7);
        due("run to the end", desk.run(5, 7), 7);
        due("run none", desk.run(5, 0), 0);
        due("clear", desk.clear(9), 1);
        due("run n at most", desk.run(5, 3), 3);
        CHECKS.dueEmpty("run n at most", desk, 9);
        due("run n at most", desk.run(5, 4), 4);
        CHECKS.dueRange("run n at most", desk, 9, INT, -5, -3);
        for (int k : new int[] {-1, 12, Integer.MIN_VALUE, Integer.MAX_VALUE}) {
            CHECKS.dueRefusal("run: k", desk, desk.run(k, 1), -5);
        }
        for (int n : new int[] {-1, 13, Integer.MIN_VALUE, Integer.MAX_VALUE}) {
            CHECKS.dueRefusal("run: n", desk, desk.run(0, n), -5);
        }
        due("run none after a refusal", desk.run(0, 0), 0);
        due("run none after a refusal: state", desk.state(), 0);
        runToAGap();
        runToARefusal();
        runThroughEmpty();
    }

    private static void runToAGap() {
        StretchDesk desk = with(INT, 3, 5);
        due("step", desk.step(0, 6, 0, 0, 1), 1);
        due("step", desk.step(2, 6, 0, 0, 2), 1);
        due("a refusal before", desk.sort(7), -3);
        due("run to the gap", desk.run(0, 12), 1);
        due("run to the gap: state", desk.state(), 0);
        CHECKS.dueEmpty("run to the gap", desk, 2);
        due("run at the gap", desk.run(1, 12), 0);
        due("run at the gap: state", desk.state(), 0);
        due("run behind the gap", desk.run(2, 12), 1);
        CHECKS.dueRange("run behind the gap", desk, 2, INT, -5, -3);
    }

    private static void dueRunRefused(int sort, int what, int b, int refusal) {
        StretchDesk desk = with(sort, 0, 1);
        due("set", desk.set(2, (sort + 1) % 4, 0, 1), 1);
        due("step", desk.step(0, 6, 0, 0, 3), 1);
        due("step", desk.step(1, what, 0, b, 4), 1);
        due("step", desk.step(2, 6, 0, 0, 5), 1);
        due("run to a refusal", desk.run(0, 12), 1);
        due("run to a refusal: state", desk.state(), refusal);
        due("run to a refusal: refused", desk.about(2), 1);
        due("run to a refusal: done", desk.about(4), 1);
        due("run to a refusal: state still", desk.state(), refusal);
        due("run up to before it", desk.run(0, 1), 1);
        due("run up to before it: state", desk.state(), 0);
        due("slots", desk.about(0), 3);
    }

    private static void runToARefusal() {
        dueRunRefused(INT, 0, 9, -3);
        dueRunRefused(INT, 0, 2, -4);
        dueRunRefused(INT, 1, 2, -4);
        dueRunRefused(INT, 3, 0, -4);
        dueRunRefused(INT, 3, 9, -4);
        dueRunRefused(DOUBLE, 3, 5, -5);
        dueRunRefused(FLOAT, 3, -1, -5);
        dueRunRefused(LONG, 4, 0, -4);
        dueRunRefused(LONG, 5, 0, -4);
        dueRunRefused(FLOAT, 5, 2, -4);
        dueRunRefused(FLOAT, 7, 4, -4);
        dueRunRefused(FLOAT, 7, -1, -4);
    }

    private static void runThroughEmpty() {
        StretchDesk desk = withTwo(DOUBLE, d(0.25), d(0.5), DOUBLE, d(1), d(2));
        due("step", desk.step(0, 1, 0, 1, 2), 1);
        due("step", desk.step(1, 3, 0, 4, 2), 1);
        due("step", desk.step(2, 6, 0, 0, 3), 1);
        due("step", desk.step(3, 6, 2, 0, 3), 1);
        due("a step that leaves a slot EMPTY is done", desk.run(0, 12), 3);
        due("what it left EMPTY is REFUSED", desk.state(), -3);
        due("done", desk.about(4), 3);
        due("refused", desk.about(2), 1);
        CHECKS.dueRange("done", desk, 3, DOUBLE, d(-0.5), d(-0.25));
    }

    private static void state() {
        StretchDesk desk = with(INT, 1, 2);
        due("state", desk.state(), 0);
        due("refused", desk.set(16, 0, 0, 0), -2);
        due("state", desk.state(), -2);
        due("state again", desk.state(), -2);
        due("about", desk.about(0), 1);
        due("about none", desk.about(9), -1);
        due("state after about", desk.state(), -2);
        due("a call", desk.has(0, 7), 0);
        due("state after a call that answers 0", desk.state(), 0);
        due("near", desk.near(0, 7), 2);
        long[] answers = {desk.sort(3), desk.low(0), desk.sort(3), desk.high(0), desk.sort(3), desk.clear(3)};
        due("state after clear", desk.state(), 0);
        due("answers", answers[1] + answers[3] + answers[5], 3);
        due("refused", desk.sort(3), -3);
        due("low", desk.low(0), 1);
        due("state after low", desk.state(), 0);
        due("refused", desk.sort(3), -3);
        due("near", desk.near(0, 0), 1);
        due("state after near", desk.state(), 0);
        due("refused", desk.sort(3), -3);
        due("step", desk.step(0, 0, 0, 0, 0), 1);
        due("state after step", desk.state(), 0);
    }

    private static void about() {
        StretchDesk desk = with(INT, 1, 2);
        due("set", desk.set(7, LONG, 1, 2), 1);
        due("about 0", desk.about(0), 2);
        due("clear", desk.clear(7), 1);
        due("about 0", desk.about(0), 1);
        due("step", desk.step(4, 6, 0, 0, 5), 1);
        due("step anew", desk.step(4, 6, 0, 0, 6), 1);
        due("step", desk.step(5, 6, 6, 0, 7), 1);
        due("about 1", desk.about(1), 2);
        due("about 2", desk.about(2), 0);
        due("refused", desk.low(16), 0);
        due("refused", desk.high(12), 0);
        due("refused", desk.near(12, 0), 0);
        due("refused", desk.hull(0, 12, 0), -3);
        due("refused", desk.run(12, 0), -5);
        due("refused", desk.step(12, 0, 0, 0, 0), -5);
        due("about 2", desk.about(2), 6);
        due("about 3", desk.about(3), 0);
        due("low", desk.low(0), 1);
        due("high", desk.high(0), 2);
        due("high", desk.high(0), 2);
        due("near", desk.near(0, 0), 1);
        due("about 3", desk.about(3), 3);
        due("about 4", desk.about(4), 0);
        due("run", desk.run(4, 5), 2);
        due("run", desk.run(4, 1), 1);
        due("about 4", desk.about(4), 3);
        for (int what : new int[] {-1, 5, Integer.MIN_VALUE, Integer.MAX_VALUE}) {
            due("about none", desk.about(what), StretchDesk.NONE);
        }
        due("about 2 is left alone by about", desk.about(2), 6);
        due("state", desk.state(), 0);
    }

    private static void refusalsInOrder() {
        for (int slot : BAD_SLOTS) {
            StretchDesk desk = with(INT, 1, 2);
            for (int what = 0; what < 8; what++) {
                boolean takesTwo = what == 0 || what == 1 || what == 5;
                int b = takesTwo ? 9 : 77;
                CHECKS.dueRefusal("a is none: " + what, desk, calledOf(desk, what, slot, b, 9), -2);
                CHECKS.dueRefusal("to is none: " + what, desk, calledOf(desk, what, 9, b, slot), -2);
                CHECKS.dueRefusal("a is EMPTY: " + what, desk, calledOf(desk, what, 9, takesTwo ? 0 : 77, 3), -3);
                if (takesTwo) {
                    CHECKS.dueRefusal("b is none: " + what, desk, calledOf(desk, what, 9, slot, 3), -2);
                    CHECKS.dueRefusal("b is EMPTY: " + what, desk, calledOf(desk, what, 0, 9, 3), -3);
                }
            }
            due("nothing changed", desk.about(0), 1);
            CHECKS.dueRange("nothing changed", desk, 0, INT, 1, 2);
        }
    }

    private static int calledOf(StretchDesk desk, int what, int a, int b, int to) {
        switch (what) {
            case 0: return desk.hull(a, b, to);
            case 1: return desk.meet(a, b, to);
            case 2: return desk.size(a, to);
            case 3: return desk.round(a, b, to);
            case 4: return desk.sign(a, to);
            case 5: return desk.lend(a, b, to);
            case 6: return desk.turn(a, to);
            default: return desk.as(a, b, to);
        }
    }

    private static void slotsTakenAndComeTo() {
        for (int what = 0; what < 8; what++) {
            boolean takesTwo = what == 0 || what == 1 || what == 5;
            int b = takesTwo ? 1 : 2;
            StretchDesk desk = withTwo(DOUBLE, d(-2.5), d(7.25), DOUBLE, d(-8.5), d(-1.5));
            due("to another", calledOf(desk, what, 0, b, 2), 1);
            StretchDesk same = withTwo(DOUBLE, d(-2.5), d(7.25), DOUBLE, d(-8.5), d(-1.5));
            due("to a", calledOf(same, what, 0, b, 0), 1);
            CHECKS.dueRange("to a: " + what, same, 0, desk.sort(2), desk.low(2), desk.high(2));
            if (takesTwo) {
                same = withTwo(DOUBLE, d(-2.5), d(7.25), DOUBLE, d(-8.5), d(-1.5));
                due("to b", calledOf(same, what, 0, b, 1), 1);
                CHECKS.dueRange("to b: " + what, same, 1, desk.sort(2), desk.low(2), desk.high(2));
                CHECKS.dueRange("to b leaves a: " + what, same, 0, DOUBLE, d(-2.5), d(7.25));
            }
        }
    }
}
